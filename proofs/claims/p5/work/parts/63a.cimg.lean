/-! THE IMAGES of the class and of the JDK methods that it calls (by program: wip/sx/gen_cimg.py) -/
set_option maxRecDepth 20000 in
set_option maxHeartbeats 4000000 in
theorem k_166_0 {x0 : Nat} {y1 : Nat} {N : Nat} {G : Nat → sx_C} {K : Option Value ⊕ Nat → Nat → (Nat → sx_C) → Nat → Nat → Prop} (hh : 5 ≤ x0 ∧ x0 < N ∧ ∃ (r1_0 : Nat) (i1_1 : Int32) (i1_2 : Int32), G x0 = .inr (.inl (13, [.ref r1_0, .int i1_1, .int i1_2])) ∧ r1_0 < N ∧ ∃ (n3 : Nat) (f3 : Nat → Option Nat), (va_up G x0 (.inr (.inl (13, [.ref r1_0, .int i1_1, .int (i1_2 + 1)])))) r1_0 = .inl (4, (n3, .inr (.inr (.inr (.inr f3))))) ∧ ((i1_1.toInt ≠ (Int32.ofNat n3).toInt → 5 ≤ r1_0 ∧ 0 ≤ i1_1.toInt ∧ i1_1.toInt < (n3 : Nat) ∧ 5 ≤ y1 ∧ y1 < N ∧ ∃ (c172 : Nat) (w172 : List Value), (va_up G x0 (.inr (.inl (13, [.ref r1_0, .int i1_1, .int (i1_2 + 1)])))) y1 = .inr (.inl (c172, w172)) ∧ s_cst (c172 + 1) 4 = true ∧ K (.inl (some (.int 1))) (N) (va_up (va_up (va_up G x0 (.inr (.inl (13, [.ref r1_0, .int i1_1, .int (i1_2 + 1)])))) r1_0 (.inl (4, (n3, .inr (.inr (.inr (.inr (va_up f3 i1_1.toNatClampNeg (some y1))))))))) x0 (.inr (.inl (13, [.ref r1_0, .int (i1_1 + 1), .int (i1_2 + 1)])))) (0) (0)) ∧ (i1_1.toInt = (Int32.ofNat n3).toInt → ((0 < (Int32.ofNat n3).toInt → (((i1_1 + 1 - Int32.ofNat n3).toInt < (c_shr (Int32.ofNat n3) 1).toInt → (((Int32.ofNat n3 + (c_shr (Int32.ofNat n3) 1)).toInt ≤ 0 → False) ∧ (0 < (Int32.ofNat n3 + (c_shr (Int32.ofNat n3) 1)).toInt → ((2147483639 < (Int32.ofNat n3 + (c_shr (Int32.ofNat n3) 1)).toInt → False) ∧ ((Int32.ofNat n3 + (c_shr (Int32.ofNat n3) 1)).toInt ≤ 2147483639 → 5 ≤ r1_0 ∧ (4 < N ∧ ∃ j : Nat, (va_up G x0 (.inr (.inl (13, [.ref r1_0, .int i1_1, .int (i1_2 + 1)])))) 4 = .inr (.inr j)) ∧ (4 < N ∧ ∃ j : Nat, (va_up G x0 (.inr (.inl (13, [.ref r1_0, .int i1_1, .int (i1_2 + 1)])))) 4 = .inr (.inr j)) ∧ 5 ≤ N ∧ ∃ n13 : Nat, 0 ≤ (Int32.ofNat n3 + (c_shr (Int32.ofNat n3) 1)).toInt ∧ (Int32.ofNat n3 + (c_shr (Int32.ofNat n3) 1)).toNatClampNeg = n13 ∧ n13 ≤ 100000 ∧ (((Int32.ofNat n3 + (c_shr (Int32.ofNat n3) 1)).toInt < (Int32.ofNat n3).toInt → (0 ≤ (0 : Int32).toInt ∧ 0 ≤ (0 : Int32).toInt ∧ 0 ≤ (Int32.ofNat n3 + (c_shr (Int32.ofNat n3) 1)).toInt ∧ (0 : Int32).toInt + (Int32.ofNat n3 + (c_shr (Int32.ofNat n3) 1)).toInt ≤ ((n3 : Nat) : Int) ∧ (0 : Int32).toInt + (Int32.ofNat n3 + (c_shr (Int32.ofNat n3) 1)).toInt ≤ ((n13 : Nat) : Int) ∧ ∀ i, i < (Int32.ofNat n3 + (c_shr (Int32.ofNat n3) 1)).toNatClampNeg → c_el (N + 1) (va_up (va_up G x0 (.inr (.inl (13, [.ref r1_0, .int i1_1, .int (i1_2 + 1)])))) N (.inl (4, (n13, .inr (.inr (.inr (.inr (fun _ => none)))))))) (f3 ((0 : Int32).toNatClampNeg + i))) ∧ 0 ≤ i1_1.toInt ∧ i1_1.toInt < (n13 : Nat) ∧ 5 ≤ y1 ∧ y1 < N + 1 ∧ ∃ (c24 : Nat) (w24 : List Value), (va_up (va_up (va_up (va_up G x0 (.inr (.inl (13, [.ref r1_0, .int i1_1, .int (i1_2 + 1)])))) N (.inl (4, (n13, .inr (.inr (.inr (.inr (fun _ => none)))))))) N (.inl (4, (n13, .inr (.inr (.inr (.inr (va_cpy f3 (fun _ => none) (0 : Int32).toNatClampNeg (0 : Int32).toNatClampNeg (Int32.ofNat n3 + (c_shr (Int32.ofNat n3) 1)).toNatClampNeg)))))))) x0 (.inr (.inl (13, [.ref N, .int i1_1, .int (i1_2 + 1)])))) y1 = .inr (.inl (c24, w24)) ∧ s_cst (c24 + 1) 4 = true ∧ K (.inl (some (.int 1))) (N + 1) (va_up (va_up (va_up (va_up (va_up (va_up G x0 (.inr (.inl (13, [.ref r1_0, .int i1_1, .int (i1_2 + 1)])))) N (.inl (4, (n13, .inr (.inr (.inr (.inr (fun _ => none)))))))) N (.inl (4, (n13, .inr (.inr (.inr (.inr (va_cpy f3 (fun _ => none) (0 : Int32).toNatClampNeg (0 : Int32).toNatClampNeg (Int32.ofNat n3 + (c_shr (Int32.ofNat n3) 1)).toNatClampNeg)))))))) x0 (.inr (.inl (13, [.ref N, .int i1_1, .int (i1_2 + 1)])))) N (.inl (4, (n13, .inr (.inr (.inr (.inr (va_up (va_cpy f3 (fun _ => none) (0 : Int32).toNatClampNeg (0 : Int32).toNatClampNeg (Int32.ofNat n3 + (c_shr (Int32.ofNat n3) 1)).toNatClampNeg) i1_1.toNatClampNeg (some y1))))))))) x0 (.inr (.inl (13, [.ref N, .int (i1_1 + 1), .int (i1_2 + 1)])))) (1) (n13)) ∧ ((Int32.ofNat n3).toInt ≤ (Int32.ofNat n3 + (c_shr (Int32.ofNat n3) 1)).toInt → (0 ≤ (0 : Int32).toInt ∧ 0 ≤ (0 : Int32).toInt ∧ 0 ≤ (Int32.ofNat n3).toInt ∧ (0 : Int32).toInt + (Int32.ofNat n3).toInt ≤ ((n3 : Nat) : Int) ∧ (0 : Int32).toInt + (Int32.ofNat n3).toInt ≤ ((n13 : Nat) : Int) ∧ ∀ i, i < (Int32.ofNat n3).toNatClampNeg → c_el (N + 1) (va_up (va_up G x0 (.inr (.inl (13, [.ref r1_0, .int i1_1, .int (i1_2 + 1)])))) N (.inl (4, (n13, .inr (.inr (.inr (.inr (fun _ => none)))))))) (f3 ((0 : Int32).toNatClampNeg + i))) ∧ 0 ≤ i1_1.toInt ∧ i1_1.toInt < (n13 : Nat) ∧ 5 ≤ y1 ∧ y1 < N + 1 ∧ ∃ (c35 : Nat) (w35 : List Value), (va_up (va_up (va_up (va_up G x0 (.inr (.inl (13, [.ref r1_0, .int i1_1, .int (i1_2 + 1)])))) N (.inl (4, (n13, .inr (.inr (.inr (.inr (fun _ => none)))))))) N (.inl (4, (n13, .inr (.inr (.inr (.inr (va_cpy f3 (fun _ => none) (0 : Int32).toNatClampNeg (0 : Int32).toNatClampNeg (Int32.ofNat n3).toNatClampNeg)))))))) x0 (.inr (.inl (13, [.ref N, .int i1_1, .int (i1_2 + 1)])))) y1 = .inr (.inl (c35, w35)) ∧ s_cst (c35 + 1) 4 = true ∧ K (.inl (some (.int 1))) (N + 1) (va_up (va_up (va_up (va_up (va_up (va_up G x0 (.inr (.inl (13, [.ref r1_0, .int i1_1, .int (i1_2 + 1)])))) N (.inl (4, (n13, .inr (.inr (.inr (.inr (fun _ => none)))))))) N (.inl (4, (n13, .inr (.inr (.inr (.inr (va_cpy f3 (fun _ => none) (0 : Int32).toNatClampNeg (0 : Int32).toNatClampNeg (Int32.ofNat n3).toNatClampNeg)))))))) x0 (.inr (.inl (13, [.ref N, .int i1_1, .int (i1_2 + 1)])))) N (.inl (4, (n13, .inr (.inr (.inr (.inr (va_up (va_cpy f3 (fun _ => none) (0 : Int32).toNatClampNeg (0 : Int32).toNatClampNeg (Int32.ofNat n3).toNatClampNeg) i1_1.toNatClampNeg (some y1))))))))) x0 (.inr (.inl (13, [.ref N, .int (i1_1 + 1), .int (i1_2 + 1)])))) (1) (n13)))))))) ∧ ((c_shr (Int32.ofNat n3) 1).toInt ≤ (i1_1 + 1 - Int32.ofNat n3).toInt → (((Int32.ofNat n3 + (i1_1 + 1 - Int32.ofNat n3)).toInt ≤ 0 → False) ∧ (0 < (Int32.ofNat n3 + (i1_1 + 1 - Int32.ofNat n3)).toInt → ((2147483639 < (Int32.ofNat n3 + (i1_1 + 1 - Int32.ofNat n3)).toInt → False) ∧ ((Int32.ofNat n3 + (i1_1 + 1 - Int32.ofNat n3)).toInt ≤ 2147483639 → 5 ≤ r1_0 ∧ (4 < N ∧ ∃ j : Nat, (va_up G x0 (.inr (.inl (13, [.ref r1_0, .int i1_1, .int (i1_2 + 1)])))) 4 = .inr (.inr j)) ∧ (4 < N ∧ ∃ j : Nat, (va_up G x0 (.inr (.inl (13, [.ref r1_0, .int i1_1, .int (i1_2 + 1)])))) 4 = .inr (.inr j)) ∧ 5 ≤ N ∧ ∃ n46 : Nat, 0 ≤ (Int32.ofNat n3 + (i1_1 + 1 - Int32.ofNat n3)).toInt ∧ (Int32.ofNat n3 + (i1_1 + 1 - Int32.ofNat n3)).toNatClampNeg = n46 ∧ n46 ≤ 100000 ∧ (((Int32.ofNat n3 + (i1_1 + 1 - Int32.ofNat n3)).toInt < (Int32.ofNat n3).toInt → (0 ≤ (0 : Int32).toInt ∧ 0 ≤ (0 : Int32).toInt ∧ 0 ≤ (Int32.ofNat n3 + (i1_1 + 1 - Int32.ofNat n3)).toInt ∧ (0 : Int32).toInt + (Int32.ofNat n3 + (i1_1 + 1 - Int32.ofNat n3)).toInt ≤ ((n3 : Nat) : Int) ∧ (0 : Int32).toInt + (Int32.ofNat n3 + (i1_1 + 1 - Int32.ofNat n3)).toInt ≤ ((n46 : Nat) : Int) ∧ ∀ i, i < (Int32.ofNat n3 + (i1_1 + 1 - Int32.ofNat n3)).toNatClampNeg → c_el (N + 1) (va_up (va_up G x0 (.inr (.inl (13, [.ref r1_0, .int i1_1, .int (i1_2 + 1)])))) N (.inl (4, (n46, .inr (.inr (.inr (.inr (fun _ => none)))))))) (f3 ((0 : Int32).toNatClampNeg + i))) ∧ 0 ≤ i1_1.toInt ∧ i1_1.toInt < (n46 : Nat) ∧ 5 ≤ y1 ∧ y1 < N + 1 ∧ ∃ (c57 : Nat) (w57 : List Value), (va_up (va_up (va_up (va_up G x0 (.inr (.inl (13, [.ref r1_0, .int i1_1, .int (i1_2 + 1)])))) N (.inl (4, (n46, .inr (.inr (.inr (.inr (fun _ => none)))))))) N (.inl (4, (n46, .inr (.inr (.inr (.inr (va_cpy f3 (fun _ => none) (0 : Int32).toNatClampNeg (0 : Int32).toNatClampNeg (Int32.ofNat n3 + (i1_1 + 1 - Int32.ofNat n3)).toNatClampNeg)))))))) x0 (.inr (.inl (13, [.ref N, .int i1_1, .int (i1_2 + 1)])))) y1 = .inr (.inl (c57, w57)) ∧ s_cst (c57 + 1) 4 = true ∧ K (.inl (some (.int 1))) (N + 1) (va_up (va_up (va_up (va_up (va_up (va_up G x0 (.inr (.inl (13, [.ref r1_0, .int i1_1, .int (i1_2 + 1)])))) N (.inl (4, (n46, .inr (.inr (.inr (.inr (fun _ => none)))))))) N (.inl (4, (n46, .inr (.inr (.inr (.inr (va_cpy f3 (fun _ => none) (0 : Int32).toNatClampNeg (0 : Int32).toNatClampNeg (Int32.ofNat n3 + (i1_1 + 1 - Int32.ofNat n3)).toNatClampNeg)))))))) x0 (.inr (.inl (13, [.ref N, .int i1_1, .int (i1_2 + 1)])))) N (.inl (4, (n46, .inr (.inr (.inr (.inr (va_up (va_cpy f3 (fun _ => none) (0 : Int32).toNatClampNeg (0 : Int32).toNatClampNeg (Int32.ofNat n3 + (i1_1 + 1 - Int32.ofNat n3)).toNatClampNeg) i1_1.toNatClampNeg (some y1))))))))) x0 (.inr (.inl (13, [.ref N, .int (i1_1 + 1), .int (i1_2 + 1)])))) (1) (n46)) ∧ ((Int32.ofNat n3).toInt ≤ (Int32.ofNat n3 + (i1_1 + 1 - Int32.ofNat n3)).toInt → (0 ≤ (0 : Int32).toInt ∧ 0 ≤ (0 : Int32).toInt ∧ 0 ≤ (Int32.ofNat n3).toInt ∧ (0 : Int32).toInt + (Int32.ofNat n3).toInt ≤ ((n3 : Nat) : Int) ∧ (0 : Int32).toInt + (Int32.ofNat n3).toInt ≤ ((n46 : Nat) : Int) ∧ ∀ i, i < (Int32.ofNat n3).toNatClampNeg → c_el (N + 1) (va_up (va_up G x0 (.inr (.inl (13, [.ref r1_0, .int i1_1, .int (i1_2 + 1)])))) N (.inl (4, (n46, .inr (.inr (.inr (.inr (fun _ => none)))))))) (f3 ((0 : Int32).toNatClampNeg + i))) ∧ 0 ≤ i1_1.toInt ∧ i1_1.toInt < (n46 : Nat) ∧ 5 ≤ y1 ∧ y1 < N + 1 ∧ ∃ (c68 : Nat) (w68 : List Value), (va_up (va_up (va_up (va_up G x0 (.inr (.inl (13, [.ref r1_0, .int i1_1, .int (i1_2 + 1)])))) N (.inl (4, (n46, .inr (.inr (.inr (.inr (fun _ => none)))))))) N (.inl (4, (n46, .inr (.inr (.inr (.inr (va_cpy f3 (fun _ => none) (0 : Int32).toNatClampNeg (0 : Int32).toNatClampNeg (Int32.ofNat n3).toNatClampNeg)))))))) x0 (.inr (.inl (13, [.ref N, .int i1_1, .int (i1_2 + 1)])))) y1 = .inr (.inl (c68, w68)) ∧ s_cst (c68 + 1) 4 = true ∧ K (.inl (some (.int 1))) (N + 1) (va_up (va_up (va_up (va_up (va_up (va_up G x0 (.inr (.inl (13, [.ref r1_0, .int i1_1, .int (i1_2 + 1)])))) N (.inl (4, (n46, .inr (.inr (.inr (.inr (fun _ => none)))))))) N (.inl (4, (n46, .inr (.inr (.inr (.inr (va_cpy f3 (fun _ => none) (0 : Int32).toNatClampNeg (0 : Int32).toNatClampNeg (Int32.ofNat n3).toNatClampNeg)))))))) x0 (.inr (.inl (13, [.ref N, .int i1_1, .int (i1_2 + 1)])))) N (.inl (4, (n46, .inr (.inr (.inr (.inr (va_up (va_cpy f3 (fun _ => none) (0 : Int32).toNatClampNeg (0 : Int32).toNatClampNeg (Int32.ofNat n3).toNatClampNeg) i1_1.toNatClampNeg (some y1))))))))) x0 (.inr (.inl (13, [.ref N, .int (i1_1 + 1), .int (i1_2 + 1)])))) (1) (n46)))))))))) ∧ ((Int32.ofNat n3).toInt ≤ 0 → r1_0 ≠ 4 ∧ ((r1_0 = 1 → ((10 < (i1_1 + 1).toInt → 5 ≤ N ∧ ∃ n77 : Nat, 0 ≤ (i1_1 + 1).toInt ∧ (i1_1 + 1).toNatClampNeg = n77 ∧ n77 ≤ 100000 ∧ 0 ≤ i1_1.toInt ∧ i1_1.toInt < (n77 : Nat) ∧ 5 ≤ y1 ∧ y1 < N + 1 ∧ ∃ (c85 : Nat) (w85 : List Value), (va_up (va_up (va_up G x0 (.inr (.inl (13, [.ref r1_0, .int i1_1, .int (i1_2 + 1)])))) N (.inl (4, (n77, .inr (.inr (.inr (.inr (fun _ => none)))))))) x0 (.inr (.inl (13, [.ref N, .int i1_1, .int (i1_2 + 1)])))) y1 = .inr (.inl (c85, w85)) ∧ s_cst (c85 + 1) 4 = true ∧ K (.inl (some (.int 1))) (N + 1) (va_up (va_up (va_up (va_up (va_up G x0 (.inr (.inl (13, [.ref r1_0, .int i1_1, .int (i1_2 + 1)])))) N (.inl (4, (n77, .inr (.inr (.inr (.inr (fun _ => none)))))))) x0 (.inr (.inl (13, [.ref N, .int i1_1, .int (i1_2 + 1)])))) N (.inl (4, (n77, .inr (.inr (.inr (.inr (va_up (fun _ => none) i1_1.toNatClampNeg (some y1))))))))) x0 (.inr (.inl (13, [.ref N, .int (i1_1 + 1), .int (i1_2 + 1)])))) (1) (n77)) ∧ ((i1_1 + 1).toInt ≤ 10 → 5 ≤ N ∧ 0 ≤ i1_1.toInt ∧ i1_1.toInt < (10 : Nat) ∧ 5 ≤ y1 ∧ y1 < N + 1 ∧ ∃ (c98 : Nat) (w98 : List Value), (va_up (va_up (va_up G x0 (.inr (.inl (13, [.ref r1_0, .int i1_1, .int (i1_2 + 1)])))) N (.inl (4, (10, .inr (.inr (.inr (.inr (fun _ => none)))))))) x0 (.inr (.inl (13, [.ref N, .int i1_1, .int (i1_2 + 1)])))) y1 = .inr (.inl (c98, w98)) ∧ s_cst (c98 + 1) 4 = true ∧ K (.inl (some (.int 1))) (N + 1) (va_up (va_up (va_up (va_up (va_up G x0 (.inr (.inl (13, [.ref r1_0, .int i1_1, .int (i1_2 + 1)])))) N (.inl (4, (10, .inr (.inr (.inr (.inr (fun _ => none)))))))) x0 (.inr (.inl (13, [.ref N, .int i1_1, .int (i1_2 + 1)])))) N (.inl (4, (10, .inr (.inr (.inr (.inr (va_up (fun _ => none) i1_1.toNatClampNeg (some y1))))))))) x0 (.inr (.inl (13, [.ref N, .int (i1_1 + 1), .int (i1_2 + 1)])))) (1) (10)))) ∧ (r1_0 ≠ 1 → (((i1_1 + 1 - Int32.ofNat n3).toInt < (c_shr (Int32.ofNat n3) 1).toInt → (((Int32.ofNat n3 + (c_shr (Int32.ofNat n3) 1)).toInt ≤ 0 → False) ∧ (0 < (Int32.ofNat n3 + (c_shr (Int32.ofNat n3) 1)).toInt → ((2147483639 < (Int32.ofNat n3 + (c_shr (Int32.ofNat n3) 1)).toInt → False) ∧ ((Int32.ofNat n3 + (c_shr (Int32.ofNat n3) 1)).toInt ≤ 2147483639 → 5 ≤ r1_0 ∧ (4 < N ∧ ∃ j : Nat, (va_up G x0 (.inr (.inl (13, [.ref r1_0, .int i1_1, .int (i1_2 + 1)])))) 4 = .inr (.inr j)) ∧ (4 < N ∧ ∃ j : Nat, (va_up G x0 (.inr (.inl (13, [.ref r1_0, .int i1_1, .int (i1_2 + 1)])))) 4 = .inr (.inr j)) ∧ 5 ≤ N ∧ ∃ n110 : Nat, 0 ≤ (Int32.ofNat n3 + (c_shr (Int32.ofNat n3) 1)).toInt ∧ (Int32.ofNat n3 + (c_shr (Int32.ofNat n3) 1)).toNatClampNeg = n110 ∧ n110 ≤ 100000 ∧ (((Int32.ofNat n3 + (c_shr (Int32.ofNat n3) 1)).toInt < (Int32.ofNat n3).toInt → (0 ≤ (0 : Int32).toInt ∧ 0 ≤ (0 : Int32).toInt ∧ 0 ≤ (Int32.ofNat n3 + (c_shr (Int32.ofNat n3) 1)).toInt ∧ (0 : Int32).toInt + (Int32.ofNat n3 + (c_shr (Int32.ofNat n3) 1)).toInt ≤ ((n3 : Nat) : Int) ∧ (0 : Int32).toInt + (Int32.ofNat n3 + (c_shr (Int32.ofNat n3) 1)).toInt ≤ ((n110 : Nat) : Int) ∧ ∀ i, i < (Int32.ofNat n3 + (c_shr (Int32.ofNat n3) 1)).toNatClampNeg → c_el (N + 1) (va_up (va_up G x0 (.inr (.inl (13, [.ref r1_0, .int i1_1, .int (i1_2 + 1)])))) N (.inl (4, (n110, .inr (.inr (.inr (.inr (fun _ => none)))))))) (f3 ((0 : Int32).toNatClampNeg + i))) ∧ 0 ≤ i1_1.toInt ∧ i1_1.toInt < (n110 : Nat) ∧ 5 ≤ y1 ∧ y1 < N + 1 ∧ ∃ (c121 : Nat) (w121 : List Value), (va_up (va_up (va_up (va_up G x0 (.inr (.inl (13, [.ref r1_0, .int i1_1, .int (i1_2 + 1)])))) N (.inl (4, (n110, .inr (.inr (.inr (.inr (fun _ => none)))))))) N (.inl (4, (n110, .inr (.inr (.inr (.inr (va_cpy f3 (fun _ => none) (0 : Int32).toNatClampNeg (0 : Int32).toNatClampNeg (Int32.ofNat n3 + (c_shr (Int32.ofNat n3) 1)).toNatClampNeg)))))))) x0 (.inr (.inl (13, [.ref N, .int i1_1, .int (i1_2 + 1)])))) y1 = .inr (.inl (c121, w121)) ∧ s_cst (c121 + 1) 4 = true ∧ K (.inl (some (.int 1))) (N + 1) (va_up (va_up (va_up (va_up (va_up (va_up G x0 (.inr (.inl (13, [.ref r1_0, .int i1_1, .int (i1_2 + 1)])))) N (.inl (4, (n110, .inr (.inr (.inr (.inr (fun _ => none)))))))) N (.inl (4, (n110, .inr (.inr (.inr (.inr (va_cpy f3 (fun _ => none) (0 : Int32).toNatClampNeg (0 : Int32).toNatClampNeg (Int32.ofNat n3 + (c_shr (Int32.ofNat n3) 1)).toNatClampNeg)))))))) x0 (.inr (.inl (13, [.ref N, .int i1_1, .int (i1_2 + 1)])))) N (.inl (4, (n110, .inr (.inr (.inr (.inr (va_up (va_cpy f3 (fun _ => none) (0 : Int32).toNatClampNeg (0 : Int32).toNatClampNeg (Int32.ofNat n3 + (c_shr (Int32.ofNat n3) 1)).toNatClampNeg) i1_1.toNatClampNeg (some y1))))))))) x0 (.inr (.inl (13, [.ref N, .int (i1_1 + 1), .int (i1_2 + 1)])))) (1) (n110)) ∧ ((Int32.ofNat n3).toInt ≤ (Int32.ofNat n3 + (c_shr (Int32.ofNat n3) 1)).toInt → (0 ≤ (0 : Int32).toInt ∧ 0 ≤ (0 : Int32).toInt ∧ 0 ≤ (Int32.ofNat n3).toInt ∧ (0 : Int32).toInt + (Int32.ofNat n3).toInt ≤ ((n3 : Nat) : Int) ∧ (0 : Int32).toInt + (Int32.ofNat n3).toInt ≤ ((n110 : Nat) : Int) ∧ ∀ i, i < (Int32.ofNat n3).toNatClampNeg → c_el (N + 1) (va_up (va_up G x0 (.inr (.inl (13, [.ref r1_0, .int i1_1, .int (i1_2 + 1)])))) N (.inl (4, (n110, .inr (.inr (.inr (.inr (fun _ => none)))))))) (f3 ((0 : Int32).toNatClampNeg + i))) ∧ 0 ≤ i1_1.toInt ∧ i1_1.toInt < (n110 : Nat) ∧ 5 ≤ y1 ∧ y1 < N + 1 ∧ ∃ (c132 : Nat) (w132 : List Value), (va_up (va_up (va_up (va_up G x0 (.inr (.inl (13, [.ref r1_0, .int i1_1, .int (i1_2 + 1)])))) N (.inl (4, (n110, .inr (.inr (.inr (.inr (fun _ => none)))))))) N (.inl (4, (n110, .inr (.inr (.inr (.inr (va_cpy f3 (fun _ => none) (0 : Int32).toNatClampNeg (0 : Int32).toNatClampNeg (Int32.ofNat n3).toNatClampNeg)))))))) x0 (.inr (.inl (13, [.ref N, .int i1_1, .int (i1_2 + 1)])))) y1 = .inr (.inl (c132, w132)) ∧ s_cst (c132 + 1) 4 = true ∧ K (.inl (some (.int 1))) (N + 1) (va_up (va_up (va_up (va_up (va_up (va_up G x0 (.inr (.inl (13, [.ref r1_0, .int i1_1, .int (i1_2 + 1)])))) N (.inl (4, (n110, .inr (.inr (.inr (.inr (fun _ => none)))))))) N (.inl (4, (n110, .inr (.inr (.inr (.inr (va_cpy f3 (fun _ => none) (0 : Int32).toNatClampNeg (0 : Int32).toNatClampNeg (Int32.ofNat n3).toNatClampNeg)))))))) x0 (.inr (.inl (13, [.ref N, .int i1_1, .int (i1_2 + 1)])))) N (.inl (4, (n110, .inr (.inr (.inr (.inr (va_up (va_cpy f3 (fun _ => none) (0 : Int32).toNatClampNeg (0 : Int32).toNatClampNeg (Int32.ofNat n3).toNatClampNeg) i1_1.toNatClampNeg (some y1))))))))) x0 (.inr (.inl (13, [.ref N, .int (i1_1 + 1), .int (i1_2 + 1)])))) (1) (n110)))))))) ∧ ((c_shr (Int32.ofNat n3) 1).toInt ≤ (i1_1 + 1 - Int32.ofNat n3).toInt → (((Int32.ofNat n3 + (i1_1 + 1 - Int32.ofNat n3)).toInt ≤ 0 → False) ∧ (0 < (Int32.ofNat n3 + (i1_1 + 1 - Int32.ofNat n3)).toInt → ((2147483639 < (Int32.ofNat n3 + (i1_1 + 1 - Int32.ofNat n3)).toInt → False) ∧ ((Int32.ofNat n3 + (i1_1 + 1 - Int32.ofNat n3)).toInt ≤ 2147483639 → 5 ≤ r1_0 ∧ (4 < N ∧ ∃ j : Nat, (va_up G x0 (.inr (.inl (13, [.ref r1_0, .int i1_1, .int (i1_2 + 1)])))) 4 = .inr (.inr j)) ∧ (4 < N ∧ ∃ j : Nat, (va_up G x0 (.inr (.inl (13, [.ref r1_0, .int i1_1, .int (i1_2 + 1)])))) 4 = .inr (.inr j)) ∧ 5 ≤ N ∧ ∃ n143 : Nat, 0 ≤ (Int32.ofNat n3 + (i1_1 + 1 - Int32.ofNat n3)).toInt ∧ (Int32.ofNat n3 + (i1_1 + 1 - Int32.ofNat n3)).toNatClampNeg = n143 ∧ n143 ≤ 100000 ∧ (((Int32.ofNat n3 + (i1_1 + 1 - Int32.ofNat n3)).toInt < (Int32.ofNat n3).toInt → (0 ≤ (0 : Int32).toInt ∧ 0 ≤ (0 : Int32).toInt ∧ 0 ≤ (Int32.ofNat n3 + (i1_1 + 1 - Int32.ofNat n3)).toInt ∧ (0 : Int32).toInt + (Int32.ofNat n3 + (i1_1 + 1 - Int32.ofNat n3)).toInt ≤ ((n3 : Nat) : Int) ∧ (0 : Int32).toInt + (Int32.ofNat n3 + (i1_1 + 1 - Int32.ofNat n3)).toInt ≤ ((n143 : Nat) : Int) ∧ ∀ i, i < (Int32.ofNat n3 + (i1_1 + 1 - Int32.ofNat n3)).toNatClampNeg → c_el (N + 1) (va_up (va_up G x0 (.inr (.inl (13, [.ref r1_0, .int i1_1, .int (i1_2 + 1)])))) N (.inl (4, (n143, .inr (.inr (.inr (.inr (fun _ => none)))))))) (f3 ((0 : Int32).toNatClampNeg + i))) ∧ 0 ≤ i1_1.toInt ∧ i1_1.toInt < (n143 : Nat) ∧ 5 ≤ y1 ∧ y1 < N + 1 ∧ ∃ (c154 : Nat) (w154 : List Value), (va_up (va_up (va_up (va_up G x0 (.inr (.inl (13, [.ref r1_0, .int i1_1, .int (i1_2 + 1)])))) N (.inl (4, (n143, .inr (.inr (.inr (.inr (fun _ => none)))))))) N (.inl (4, (n143, .inr (.inr (.inr (.inr (va_cpy f3 (fun _ => none) (0 : Int32).toNatClampNeg (0 : Int32).toNatClampNeg (Int32.ofNat n3 + (i1_1 + 1 - Int32.ofNat n3)).toNatClampNeg)))))))) x0 (.inr (.inl (13, [.ref N, .int i1_1, .int (i1_2 + 1)])))) y1 = .inr (.inl (c154, w154)) ∧ s_cst (c154 + 1) 4 = true ∧ K (.inl (some (.int 1))) (N + 1) (va_up (va_up (va_up (va_up (va_up (va_up G x0 (.inr (.inl (13, [.ref r1_0, .int i1_1, .int (i1_2 + 1)])))) N (.inl (4, (n143, .inr (.inr (.inr (.inr (fun _ => none)))))))) N (.inl (4, (n143, .inr (.inr (.inr (.inr (va_cpy f3 (fun _ => none) (0 : Int32).toNatClampNeg (0 : Int32).toNatClampNeg (Int32.ofNat n3 + (i1_1 + 1 - Int32.ofNat n3)).toNatClampNeg)))))))) x0 (.inr (.inl (13, [.ref N, .int i1_1, .int (i1_2 + 1)])))) N (.inl (4, (n143, .inr (.inr (.inr (.inr (va_up (va_cpy f3 (fun _ => none) (0 : Int32).toNatClampNeg (0 : Int32).toNatClampNeg (Int32.ofNat n3 + (i1_1 + 1 - Int32.ofNat n3)).toNatClampNeg) i1_1.toNatClampNeg (some y1))))))))) x0 (.inr (.inl (13, [.ref N, .int (i1_1 + 1), .int (i1_2 + 1)])))) (1) (n143)) ∧ ((Int32.ofNat n3).toInt ≤ (Int32.ofNat n3 + (i1_1 + 1 - Int32.ofNat n3)).toInt → (0 ≤ (0 : Int32).toInt ∧ 0 ≤ (0 : Int32).toInt ∧ 0 ≤ (Int32.ofNat n3).toInt ∧ (0 : Int32).toInt + (Int32.ofNat n3).toInt ≤ ((n3 : Nat) : Int) ∧ (0 : Int32).toInt + (Int32.ofNat n3).toInt ≤ ((n143 : Nat) : Int) ∧ ∀ i, i < (Int32.ofNat n3).toNatClampNeg → c_el (N + 1) (va_up (va_up G x0 (.inr (.inl (13, [.ref r1_0, .int i1_1, .int (i1_2 + 1)])))) N (.inl (4, (n143, .inr (.inr (.inr (.inr (fun _ => none)))))))) (f3 ((0 : Int32).toNatClampNeg + i))) ∧ 0 ≤ i1_1.toInt ∧ i1_1.toInt < (n143 : Nat) ∧ 5 ≤ y1 ∧ y1 < N + 1 ∧ ∃ (c165 : Nat) (w165 : List Value), (va_up (va_up (va_up (va_up G x0 (.inr (.inl (13, [.ref r1_0, .int i1_1, .int (i1_2 + 1)])))) N (.inl (4, (n143, .inr (.inr (.inr (.inr (fun _ => none)))))))) N (.inl (4, (n143, .inr (.inr (.inr (.inr (va_cpy f3 (fun _ => none) (0 : Int32).toNatClampNeg (0 : Int32).toNatClampNeg (Int32.ofNat n3).toNatClampNeg)))))))) x0 (.inr (.inl (13, [.ref N, .int i1_1, .int (i1_2 + 1)])))) y1 = .inr (.inl (c165, w165)) ∧ s_cst (c165 + 1) 4 = true ∧ K (.inl (some (.int 1))) (N + 1) (va_up (va_up (va_up (va_up (va_up (va_up G x0 (.inr (.inl (13, [.ref r1_0, .int i1_1, .int (i1_2 + 1)])))) N (.inl (4, (n143, .inr (.inr (.inr (.inr (fun _ => none)))))))) N (.inl (4, (n143, .inr (.inr (.inr (.inr (va_cpy f3 (fun _ => none) (0 : Int32).toNatClampNeg (0 : Int32).toNatClampNeg (Int32.ofNat n3).toNatClampNeg)))))))) x0 (.inr (.inl (13, [.ref N, .int i1_1, .int (i1_2 + 1)])))) N (.inl (4, (n143, .inr (.inr (.inr (.inr (va_up (va_cpy f3 (fun _ => none) (0 : Int32).toNatClampNeg (0 : Int32).toNatClampNeg (Int32.ofNat n3).toNatClampNeg) i1_1.toNatClampNeg (some y1))))))))) x0 (.inr (.inl (13, [.ref N, .int (i1_1 + 1), .int (i1_2 + 1)])))) (1) (n143)))))))))))))))) : cT (7) sM_166 0 [(0, .ref x0), (1, .ref y1)] [] N G K := by
  intro d dc ds P hP
  refine w_mv (pc1 := 1) (st1 := [.ref x0]) rfl rfl rfl ?_
  refine w_mv (pc1 := 2) (st1 := [.ref x0, .ref x0]) rfl rfl rfl ?_
  obtain ⟨b1a, b1b, r1_0, i1_1, i1_2, g1, hh⟩ := hh
  refine cw_gf (v := .int i1_2) (pc1 := 5) rfl (by omega) (by omega) g1 rfl rfl ?_
  refine w_mv (pc1 := 6) (st1 := [.int 1, .int i1_2, .ref x0]) rfl rfl rfl ?_
  refine w_mv (pc1 := 7) (st1 := [.int (i1_2 + 1), .ref x0]) rfl rfl rfl ?_
  refine cw_pf (c1 := .inr (.inl (13, [.ref r1_0, .int i1_1, .int (i1_2 + 1)]))) (pc1 := 10) rfl (by omega) (by omega) g1 rfl rfl rfl rfl ?_
  have g2 : (va_up G x0 (.inr (.inl (13, [.ref r1_0, .int i1_1, .int (i1_2 + 1)])))) x0 = .inr (.inl (13, [.ref r1_0, .int i1_1, .int (i1_2 + 1)])) := up_eq
  refine w_mv (pc1 := 11) (st1 := [.ref x0]) rfl rfl rfl ?_
  refine w_mv (pc1 := 12) (st1 := [.ref y1, .ref x0]) rfl rfl rfl ?_
  refine w_mv (pc1 := 13) (st1 := [.ref x0, .ref y1, .ref x0]) rfl rfl rfl ?_
  refine cw_gf (v := .ref r1_0) (pc1 := 16) rfl (by omega) (by omega) g2 rfl rfl ?_
  refine w_mv (pc1 := 17) (st1 := [.ref x0, .ref r1_0, .ref y1, .ref x0]) rfl rfl rfl ?_
  refine cw_gf (v := .int i1_1) (pc1 := 20) rfl (by omega) (by omega) g2 rfl rfl ?_
  refine w_call (M' := sM_167) (vals := [.ref x0, .ref y1, .ref r1_0, .int i1_1]) (rest := []) (lv' := [(0, .ref x0), (1, .ref y1), (2, .ref r1_0), (3, .int i1_1)]) rfl rfl rfl rfl rfl rfl (cH_rcv (by omega) (by omega) g2) rfl rfl rfl ?_
  refine w_mv (pc1 := 1) (st1 := [.int i1_1]) rfl rfl rfl ?_
  refine w_mv (pc1 := 2) (st1 := [.ref r1_0, .int i1_1]) rfl rfl rfl ?_
  obtain ⟨b3b, n3, f3, g3, hh⟩ := hh
  refine cw_alen (pc1 := 3) rfl (by omega) g3 rfl ?_
  by_cases h4 : i1_1.toInt = (Int32.ofNat n3).toInt
  ·
    replace hh := hh.2 h4
    refine w_ine_F (pc1 := 6) rfl (by decide) rfl (show i1_1.toInt = (Int32.ofNat n3).toInt from h4) ?_
    refine w_mv (pc1 := 7) (st1 := [.ref x0]) rfl rfl rfl ?_
    refine w_call (M' := sM_168) (vals := [.ref x0]) (rest := []) (lv' := [(0, .ref x0)]) rfl rfl rfl rfl rfl rfl (cH_rcv (by omega) (by omega) g2) rfl rfl rfl ?_
    refine w_mv (pc1 := 1) (st1 := [.ref x0]) rfl rfl rfl ?_
    refine w_mv (pc1 := 2) (st1 := [.ref x0, .ref x0]) rfl rfl rfl ?_
    refine cw_gf (v := .int i1_1) (pc1 := 5) rfl (by omega) (by omega) g2 rfl rfl ?_
    refine w_mv (pc1 := 6) (st1 := [.int 1, .int i1_1, .ref x0]) rfl rfl rfl ?_
    refine w_mv (pc1 := 7) (st1 := [.int (i1_1 + 1), .ref x0]) rfl rfl rfl ?_
    refine w_call (M' := sM_169) (vals := [.ref x0, .int (i1_1 + 1)]) (rest := []) (lv' := [(0, .ref x0), (1, .int (i1_1 + 1))]) rfl rfl rfl rfl rfl rfl (cH_rcv (by omega) (by omega) g2) rfl rfl rfl ?_
    refine w_mv (pc1 := 1) (st1 := [.ref x0]) rfl rfl rfl ?_
    refine cw_gf (v := .ref r1_0) (pc1 := 4) rfl (by omega) (by omega) g2 rfl rfl ?_
    refine cw_alen (pc1 := 5) rfl (by omega) g3 rfl ?_
    refine w_mv (pc1 := 6) (lv1 := [(2, .int (Int32.ofNat n3)), (0, .ref x0), (1, .int (i1_1 + 1))]) (st1 := []) rfl rfl rfl ?_
    refine w_mv (pc1 := 7) (st1 := [.int (Int32.ofNat n3)]) rfl rfl rfl ?_
    by_cases h5 : 0 < (Int32.ofNat n3).toInt
    ·
      replace hh := hh.1 h5
      refine w_zgt_T (pc1 := 20) rfl rfl (show 0 < (Int32.ofNat n3).toInt from h5) ?_
      refine w_mv (pc1 := 21) (st1 := [.int (Int32.ofNat n3)]) rfl rfl rfl ?_
      refine w_mv (pc1 := 22) (st1 := [.int (i1_1 + 1), .int (Int32.ofNat n3)]) rfl rfl rfl ?_
      refine w_mv (pc1 := 23) (st1 := [.int (Int32.ofNat n3), .int (i1_1 + 1), .int (Int32.ofNat n3)]) rfl rfl rfl ?_
      refine w_mv (pc1 := 24) (st1 := [.int (i1_1 + 1 - Int32.ofNat n3), .int (Int32.ofNat n3)]) rfl rfl rfl ?_
      refine w_mv (pc1 := 25) (st1 := [.int (Int32.ofNat n3), .int (i1_1 + 1 - Int32.ofNat n3), .int (Int32.ofNat n3)]) rfl rfl rfl ?_
      refine w_mv (pc1 := 26) (st1 := [.int 1, .int (Int32.ofNat n3), .int (i1_1 + 1 - Int32.ofNat n3), .int (Int32.ofNat n3)]) rfl rfl rfl ?_
      refine w_mv (pc1 := 27) (st1 := [.int (c_shr (Int32.ofNat n3) 1), .int (i1_1 + 1 - Int32.ofNat n3), .int (Int32.ofNat n3)]) rfl rfl rfl ?_
      refine w_call (M' := sM_170) (vals := [.int (Int32.ofNat n3), .int (i1_1 + 1 - Int32.ofNat n3), .int (c_shr (Int32.ofNat n3) 1)]) (rest := []) (lv' := [(0, .int (Int32.ofNat n3)), (1, .int (i1_1 + 1 - Int32.ofNat n3)), (2, .int (c_shr (Int32.ofNat n3) 1))]) rfl rfl rfl rfl rfl rfl rfl rfl rfl rfl ?_
      refine w_mv (pc1 := 1) (st1 := [.int (Int32.ofNat n3)]) rfl rfl rfl ?_
      refine w_mv (pc1 := 2) (st1 := [.int (i1_1 + 1 - Int32.ofNat n3), .int (Int32.ofNat n3)]) rfl rfl rfl ?_
      refine w_mv (pc1 := 3) (st1 := [.int (c_shr (Int32.ofNat n3) 1), .int (i1_1 + 1 - Int32.ofNat n3), .int (Int32.ofNat n3)]) rfl rfl rfl ?_
      refine w_call (M' := sM_171) (vals := [.int (i1_1 + 1 - Int32.ofNat n3), .int (c_shr (Int32.ofNat n3) 1)]) (rest := [.int (Int32.ofNat n3)]) (lv' := [(0, .int (i1_1 + 1 - Int32.ofNat n3)), (1, .int (c_shr (Int32.ofNat n3) 1))]) rfl rfl rfl rfl rfl rfl rfl rfl rfl rfl ?_
      refine w_mv (pc1 := 1) (st1 := [.int (i1_1 + 1 - Int32.ofNat n3)]) rfl rfl rfl ?_
      refine w_mv (pc1 := 2) (st1 := [.int (c_shr (Int32.ofNat n3) 1), .int (i1_1 + 1 - Int32.ofNat n3)]) rfl rfl rfl ?_
      by_cases h6 : (i1_1 + 1 - Int32.ofNat n3).toInt < (c_shr (Int32.ofNat n3) 1).toInt
      ·
        replace hh := hh.1 h6
        refine w_ilt_T (pc1 := 9) rfl rfl (show (i1_1 + 1 - Int32.ofNat n3).toInt < (c_shr (Int32.ofNat n3) 1).toInt from h6) ?_
        refine w_mv (pc1 := 10) (st1 := [.int (c_shr (Int32.ofNat n3) 1)]) rfl rfl rfl ?_
        refine w_iret (pc1 := 6) rfl rfl rfl rfl ?_
        refine w_mv (pc1 := 7) (st1 := [.int (Int32.ofNat n3 + (c_shr (Int32.ofNat n3) 1))]) rfl rfl rfl ?_
        refine w_mv (pc1 := 8) (lv1 := [(3, .int (Int32.ofNat n3 + (c_shr (Int32.ofNat n3) 1))), (0, .int (Int32.ofNat n3)), (1, .int (i1_1 + 1 - Int32.ofNat n3)), (2, .int (c_shr (Int32.ofNat n3) 1))]) (st1 := []) rfl rfl rfl ?_
        refine w_mv (pc1 := 9) (st1 := [.int 0]) rfl rfl rfl ?_
        refine w_mv (pc1 := 10) (st1 := [.int (Int32.ofNat n3 + (c_shr (Int32.ofNat n3) 1)), .int 0]) rfl rfl rfl ?_
        by_cases h7 : (Int32.ofNat n3 + (c_shr (Int32.ofNat n3) 1)).toInt ≤ 0
        ·
          replace hh := hh.1 h7
          refine w_ige_T (pc1 := 21) rfl rfl (show (Int32.ofNat n3 + (c_shr (Int32.ofNat n3) 1)).toInt ≤ 0 from h7) ?_
          refine w_mv (pc1 := 22) (st1 := [.int (Int32.ofNat n3)]) rfl rfl rfl ?_
          refine w_mv (pc1 := 23) (st1 := [.int (i1_1 + 1 - Int32.ofNat n3), .int (Int32.ofNat n3)]) rfl rfl rfl ?_
          exact hh.elim
        ·
          replace hh := hh.2 (Int.not_le.mp h7)
          refine w_ige_F (pc1 := 13) rfl (by decide) rfl (show 0 < (Int32.ofNat n3 + (c_shr (Int32.ofNat n3) 1)).toInt from (Int.not_le.mp h7)) ?_
          refine w_mv (pc1 := 14) (st1 := [.int (Int32.ofNat n3 + (c_shr (Int32.ofNat n3) 1))]) rfl rfl rfl ?_
          refine w_mv (pc1 := 16) (st1 := [.int 2147483639, .int (Int32.ofNat n3 + (c_shr (Int32.ofNat n3) 1))]) rfl rfl rfl ?_
          by_cases h8 : 2147483639 < (Int32.ofNat n3 + (c_shr (Int32.ofNat n3) 1)).toInt
          ·
            replace hh := hh.1 h8
            refine w_igt_T (pc1 := 21) rfl rfl (show 2147483639 < (Int32.ofNat n3 + (c_shr (Int32.ofNat n3) 1)).toInt from h8) ?_
            refine w_mv (pc1 := 22) (st1 := [.int (Int32.ofNat n3)]) rfl rfl rfl ?_
            refine w_mv (pc1 := 23) (st1 := [.int (i1_1 + 1 - Int32.ofNat n3), .int (Int32.ofNat n3)]) rfl rfl rfl ?_
            exact hh.elim
          ·
            replace hh := hh.2 (Int.not_lt.mp h8)
            refine w_igt_F (pc1 := 19) rfl (by decide) rfl (show (Int32.ofNat n3 + (c_shr (Int32.ofNat n3) 1)).toInt ≤ 2147483639 from (Int.not_lt.mp h8)) ?_
            refine w_mv (pc1 := 20) (st1 := [.int (Int32.ofNat n3 + (c_shr (Int32.ofNat n3) 1))]) rfl rfl rfl ?_
            refine w_iret (pc1 := 30) rfl rfl rfl rfl ?_
            refine w_mv (pc1 := 31) (lv1 := [(3, .int (Int32.ofNat n3 + (c_shr (Int32.ofNat n3) 1))), (2, .int (Int32.ofNat n3)), (0, .ref x0), (1, .int (i1_1 + 1))]) (st1 := []) rfl rfl rfl ?_
            refine w_mv (pc1 := 32) (st1 := [.ref x0]) rfl rfl rfl ?_
            refine w_mv (pc1 := 33) (st1 := [.ref x0, .ref x0]) rfl rfl rfl ?_
            refine cw_gf (v := .ref r1_0) (pc1 := 36) rfl (by omega) (by omega) g2 rfl rfl ?_
            refine w_mv (pc1 := 37) (st1 := [.int (Int32.ofNat n3 + (c_shr (Int32.ofNat n3) 1)), .ref r1_0, .ref x0]) rfl rfl rfl ?_
            refine w_call (M' := sM_172) (vals := [.ref r1_0, .int (Int32.ofNat n3 + (c_shr (Int32.ofNat n3) 1))]) (rest := [.ref x0]) (lv' := [(0, .ref r1_0), (1, .int (Int32.ofNat n3 + (c_shr (Int32.ofNat n3) 1)))]) rfl rfl rfl rfl rfl rfl rfl rfl rfl rfl ?_
            refine w_mv (pc1 := 1) (st1 := [.ref r1_0]) rfl rfl rfl ?_
            refine w_mv (pc1 := 2) (st1 := [.int (Int32.ofNat n3 + (c_shr (Int32.ofNat n3) 1)), .ref r1_0]) rfl rfl rfl ?_
            refine w_mv (pc1 := 3) (st1 := [.ref r1_0, .int (Int32.ofNat n3 + (c_shr (Int32.ofNat n3) 1)), .ref r1_0]) rfl rfl rfl ?_
            obtain ⟨q9a, hh⟩ := hh
            obtain ⟨q10a, hh⟩ := hh
            refine cw_gc (pc1 := 6) rfl (by omega) (by omega) g3 q10a (by omega) (Nat.le_of_ble_eq_true rfl) rfl ?_
            refine w_call (M' := sM_173) (vals := [.ref r1_0, .int (Int32.ofNat n3 + (c_shr (Int32.ofNat n3) 1)), .ref 4]) (rest := []) (lv' := [(0, .ref r1_0), (1, .int (Int32.ofNat n3 + (c_shr (Int32.ofNat n3) 1))), (2, .ref 4)]) rfl rfl rfl rfl rfl rfl rfl rfl rfl rfl ?_
            refine w_mv (pc1 := 1) (st1 := [.ref 4]) rfl rfl rfl ?_
            obtain ⟨q11a, hh⟩ := hh
            refine cw_lc (pc1 := 6) rfl q11a (by omega) (Nat.le_of_ble_eq_true rfl) rfl ?_
            refine w_mv (pc1 := 7) (st1 := [.int (Int32.ofNat n3 + (c_shr (Int32.ofNat n3) 1))]) rfl rfl rfl ?_
            obtain ⟨q12a, hh⟩ := hh
            obtain ⟨n13, q13a, q13b, q13c, hh⟩ := hh
            refine cw_newq (n := n13) (pc1 := 10) rfl rfl (Int32.le_iff_toInt_le.mpr q13a) q13b q13c ?_
            have g14 : (va_up (va_up G x0 (.inr (.inl (13, [.ref r1_0, .int i1_1, .int (i1_2 + 1)])))) N (.inl (4, (n13, .inr (.inr (.inr (.inr (fun _ => none)))))))) x0 = .inr (.inl (13, [.ref r1_0, .int i1_1, .int (i1_2 + 1)])) := (va_ne (by omega)).trans g2
            have g15 : (va_up (va_up G x0 (.inr (.inl (13, [.ref r1_0, .int i1_1, .int (i1_2 + 1)])))) N (.inl (4, (n13, .inr (.inr (.inr (.inr (fun _ => none)))))))) r1_0 = .inl (4, (n3, .inr (.inr (.inr (.inr f3))))) := (va_ne (by omega)).trans g3
            have g16 : (va_up (va_up G x0 (.inr (.inl (13, [.ref r1_0, .int i1_1, .int (i1_2 + 1)])))) N (.inl (4, (n13, .inr (.inr (.inr (.inr (fun _ => none)))))))) N = .inl (4, (n13, .inr (.inr (.inr (.inr (fun _ => none)))))) := up_eq
            refine w_mv (pc1 := 24) (st1 := [.ref N]) rfl rfl rfl ?_
            refine w_mv (pc1 := 25) (lv1 := [(3, .ref N), (0, .ref r1_0), (1, .int (Int32.ofNat n3 + (c_shr (Int32.ofNat n3) 1))), (2, .ref 4)]) (st1 := []) rfl rfl rfl ?_
            refine w_mv (pc1 := 26) (st1 := [.ref r1_0]) rfl rfl rfl ?_
            refine w_mv (pc1 := 27) (st1 := [.int 0, .ref r1_0]) rfl rfl rfl ?_
            refine w_mv (pc1 := 28) (st1 := [.ref N, .int 0, .ref r1_0]) rfl rfl rfl ?_
            refine w_mv (pc1 := 29) (st1 := [.int 0, .ref N, .int 0, .ref r1_0]) rfl rfl rfl ?_
            refine w_mv (pc1 := 30) (st1 := [.ref r1_0, .int 0, .ref N, .int 0, .ref r1_0]) rfl rfl rfl ?_
            refine cw_alen (pc1 := 31) rfl (by omega) g15 rfl ?_
            refine w_mv (pc1 := 32) (st1 := [.int (Int32.ofNat n3 + (c_shr (Int32.ofNat n3) 1)), .int (Int32.ofNat n3), .int 0, .ref N, .int 0, .ref r1_0]) rfl rfl rfl ?_
            refine w_call (M' := sM_174) (vals := [.int (Int32.ofNat n3), .int (Int32.ofNat n3 + (c_shr (Int32.ofNat n3) 1))]) (rest := [.int 0, .ref N, .int 0, .ref r1_0]) (lv' := [(0, .int (Int32.ofNat n3)), (1, .int (Int32.ofNat n3 + (c_shr (Int32.ofNat n3) 1)))]) rfl rfl rfl rfl rfl rfl rfl rfl rfl rfl ?_
            refine w_mv (pc1 := 1) (st1 := [.int (Int32.ofNat n3)]) rfl rfl rfl ?_
            refine w_mv (pc1 := 2) (st1 := [.int (Int32.ofNat n3 + (c_shr (Int32.ofNat n3) 1)), .int (Int32.ofNat n3)]) rfl rfl rfl ?_
            by_cases h17 : (Int32.ofNat n3 + (c_shr (Int32.ofNat n3) 1)).toInt < (Int32.ofNat n3).toInt
            ·
              replace hh := hh.1 h17
              refine w_igt_T (pc1 := 9) rfl rfl (show (Int32.ofNat n3 + (c_shr (Int32.ofNat n3) 1)).toInt < (Int32.ofNat n3).toInt from h17) ?_
              refine w_mv (pc1 := 10) (st1 := [.int (Int32.ofNat n3 + (c_shr (Int32.ofNat n3) 1))]) rfl rfl rfl ?_
              refine w_iret (pc1 := 35) rfl rfl rfl rfl ?_
              obtain ⟨q18a, hh⟩ := hh
              refine cw_cpq (sp := (0 : Int32)) (dp := (0 : Int32)) (n := (Int32.ofNat n3 + (c_shr (Int32.ofNat n3) 1))) (pc1 := 38) rfl (by omega) (by omega) g15 (by omega) (by omega) g16 (by omega) (Nat.le_of_ble_eq_true rfl) q18a rfl ?_
              have g19 : (va_up (va_up (va_up G x0 (.inr (.inl (13, [.ref r1_0, .int i1_1, .int (i1_2 + 1)])))) N (.inl (4, (n13, .inr (.inr (.inr (.inr (fun _ => none)))))))) N (.inl (4, (n13, .inr (.inr (.inr (.inr (va_cpy f3 (fun _ => none) (0 : Int32).toNatClampNeg (0 : Int32).toNatClampNeg (Int32.ofNat n3 + (c_shr (Int32.ofNat n3) 1)).toNatClampNeg)))))))) x0 = .inr (.inl (13, [.ref r1_0, .int i1_1, .int (i1_2 + 1)])) := (va_ne (ne_oa g14 g16)).trans g14
              have g20 : (va_up (va_up (va_up G x0 (.inr (.inl (13, [.ref r1_0, .int i1_1, .int (i1_2 + 1)])))) N (.inl (4, (n13, .inr (.inr (.inr (.inr (fun _ => none)))))))) N (.inl (4, (n13, .inr (.inr (.inr (.inr (va_cpy f3 (fun _ => none) (0 : Int32).toNatClampNeg (0 : Int32).toNatClampNeg (Int32.ofNat n3 + (c_shr (Int32.ofNat n3) 1)).toNatClampNeg)))))))) N = .inl (4, (n13, .inr (.inr (.inr (.inr (va_cpy f3 (fun _ => none) (0 : Int32).toNatClampNeg (0 : Int32).toNatClampNeg (Int32.ofNat n3 + (c_shr (Int32.ofNat n3) 1)).toNatClampNeg)))))) := up_eq
              refine w_mv (pc1 := 39) (st1 := [.ref N]) rfl rfl rfl ?_
              refine w_aret (pc1 := 9) rfl rfl rfl rfl ?_
              refine w_aret (pc1 := 40) rfl rfl rfl rfl ?_
              refine w_mv (pc1 := 41) (st1 := [.ref N, .ref x0, .ref N]) rfl rfl rfl ?_
              refine cw_pf (c1 := .inr (.inl (13, [.ref N, .int i1_1, .int (i1_2 + 1)]))) (pc1 := 44) rfl (by omega) (by omega) g19 rfl rfl rfl rfl ?_
              have g21 : (va_up (va_up (va_up (va_up G x0 (.inr (.inl (13, [.ref r1_0, .int i1_1, .int (i1_2 + 1)])))) N (.inl (4, (n13, .inr (.inr (.inr (.inr (fun _ => none)))))))) N (.inl (4, (n13, .inr (.inr (.inr (.inr (va_cpy f3 (fun _ => none) (0 : Int32).toNatClampNeg (0 : Int32).toNatClampNeg (Int32.ofNat n3 + (c_shr (Int32.ofNat n3) 1)).toNatClampNeg)))))))) x0 (.inr (.inl (13, [.ref N, .int i1_1, .int (i1_2 + 1)])))) N = .inl (4, (n13, .inr (.inr (.inr (.inr (va_cpy f3 (fun _ => none) (0 : Int32).toNatClampNeg (0 : Int32).toNatClampNeg (Int32.ofNat n3 + (c_shr (Int32.ofNat n3) 1)).toNatClampNeg)))))) := (va_ne (ne_ao g20 g19)).trans g20
              have g22 : (va_up (va_up (va_up (va_up G x0 (.inr (.inl (13, [.ref r1_0, .int i1_1, .int (i1_2 + 1)])))) N (.inl (4, (n13, .inr (.inr (.inr (.inr (fun _ => none)))))))) N (.inl (4, (n13, .inr (.inr (.inr (.inr (va_cpy f3 (fun _ => none) (0 : Int32).toNatClampNeg (0 : Int32).toNatClampNeg (Int32.ofNat n3 + (c_shr (Int32.ofNat n3) 1)).toNatClampNeg)))))))) x0 (.inr (.inl (13, [.ref N, .int i1_1, .int (i1_2 + 1)])))) x0 = .inr (.inl (13, [.ref N, .int i1_1, .int (i1_2 + 1)])) := up_eq
              refine w_aret (pc1 := 10) rfl rfl rfl rfl ?_
              refine w_aret (pc1 := 10) rfl rfl rfl rfl ?_
              refine w_mv (pc1 := 11) (lv1 := [(2, .ref N), (0, .ref x0), (1, .ref y1), (3, .int i1_1)]) (st1 := []) rfl rfl rfl ?_
              refine w_mv (pc1 := 12) (st1 := [.ref N]) rfl rfl rfl ?_
              refine w_mv (pc1 := 13) (st1 := [.int i1_1, .ref N]) rfl rfl rfl ?_
              refine w_mv (pc1 := 14) (st1 := [.ref y1, .int i1_1, .ref N]) rfl rfl rfl ?_
              obtain ⟨q23a, q23b, hh⟩ := hh
              obtain ⟨u24a, u24b, c24, w24, u24c, u24d, hh⟩ := hh
              refine cw_as (pc1 := 15) rfl (by omega) (by omega) g21 (by omega) (by omega) u24c u24d q23a q23b rfl ?_
              have g25 : (va_up (va_up (va_up (va_up (va_up G x0 (.inr (.inl (13, [.ref r1_0, .int i1_1, .int (i1_2 + 1)])))) N (.inl (4, (n13, .inr (.inr (.inr (.inr (fun _ => none)))))))) N (.inl (4, (n13, .inr (.inr (.inr (.inr (va_cpy f3 (fun _ => none) (0 : Int32).toNatClampNeg (0 : Int32).toNatClampNeg (Int32.ofNat n3 + (c_shr (Int32.ofNat n3) 1)).toNatClampNeg)))))))) x0 (.inr (.inl (13, [.ref N, .int i1_1, .int (i1_2 + 1)])))) N (.inl (4, (n13, .inr (.inr (.inr (.inr (va_up (va_cpy f3 (fun _ => none) (0 : Int32).toNatClampNeg (0 : Int32).toNatClampNeg (Int32.ofNat n3 + (c_shr (Int32.ofNat n3) 1)).toNatClampNeg) i1_1.toNatClampNeg (some y1))))))))) x0 = .inr (.inl (13, [.ref N, .int i1_1, .int (i1_2 + 1)])) := (va_ne (ne_oa g22 g21)).trans g22
              have g26 : (va_up (va_up (va_up (va_up (va_up G x0 (.inr (.inl (13, [.ref r1_0, .int i1_1, .int (i1_2 + 1)])))) N (.inl (4, (n13, .inr (.inr (.inr (.inr (fun _ => none)))))))) N (.inl (4, (n13, .inr (.inr (.inr (.inr (va_cpy f3 (fun _ => none) (0 : Int32).toNatClampNeg (0 : Int32).toNatClampNeg (Int32.ofNat n3 + (c_shr (Int32.ofNat n3) 1)).toNatClampNeg)))))))) x0 (.inr (.inl (13, [.ref N, .int i1_1, .int (i1_2 + 1)])))) N (.inl (4, (n13, .inr (.inr (.inr (.inr (va_up (va_cpy f3 (fun _ => none) (0 : Int32).toNatClampNeg (0 : Int32).toNatClampNeg (Int32.ofNat n3 + (c_shr (Int32.ofNat n3) 1)).toNatClampNeg) i1_1.toNatClampNeg (some y1))))))))) N = .inl (4, (n13, .inr (.inr (.inr (.inr (va_up (va_cpy f3 (fun _ => none) (0 : Int32).toNatClampNeg (0 : Int32).toNatClampNeg (Int32.ofNat n3 + (c_shr (Int32.ofNat n3) 1)).toNatClampNeg) i1_1.toNatClampNeg (some y1))))))) := up_eq
              refine w_mv (pc1 := 16) (st1 := [.ref x0]) rfl rfl rfl ?_
              refine w_mv (pc1 := 17) (st1 := [.int i1_1, .ref x0]) rfl rfl rfl ?_
              refine w_mv (pc1 := 18) (st1 := [.int 1, .int i1_1, .ref x0]) rfl rfl rfl ?_
              refine w_mv (pc1 := 19) (st1 := [.int (i1_1 + 1), .ref x0]) rfl rfl rfl ?_
              refine cw_pf (c1 := .inr (.inl (13, [.ref N, .int (i1_1 + 1), .int (i1_2 + 1)]))) (pc1 := 22) rfl (by omega) (by omega) g25 rfl rfl rfl rfl ?_
              have g27 : (va_up (va_up (va_up (va_up (va_up (va_up G x0 (.inr (.inl (13, [.ref r1_0, .int i1_1, .int (i1_2 + 1)])))) N (.inl (4, (n13, .inr (.inr (.inr (.inr (fun _ => none)))))))) N (.inl (4, (n13, .inr (.inr (.inr (.inr (va_cpy f3 (fun _ => none) (0 : Int32).toNatClampNeg (0 : Int32).toNatClampNeg (Int32.ofNat n3 + (c_shr (Int32.ofNat n3) 1)).toNatClampNeg)))))))) x0 (.inr (.inl (13, [.ref N, .int i1_1, .int (i1_2 + 1)])))) N (.inl (4, (n13, .inr (.inr (.inr (.inr (va_up (va_cpy f3 (fun _ => none) (0 : Int32).toNatClampNeg (0 : Int32).toNatClampNeg (Int32.ofNat n3 + (c_shr (Int32.ofNat n3) 1)).toNatClampNeg) i1_1.toNatClampNeg (some y1))))))))) x0 (.inr (.inl (13, [.ref N, .int (i1_1 + 1), .int (i1_2 + 1)])))) N = .inl (4, (n13, .inr (.inr (.inr (.inr (va_up (va_cpy f3 (fun _ => none) (0 : Int32).toNatClampNeg (0 : Int32).toNatClampNeg (Int32.ofNat n3 + (c_shr (Int32.ofNat n3) 1)).toNatClampNeg) i1_1.toNatClampNeg (some y1))))))) := (va_ne (ne_ao g26 g25)).trans g26
              have g28 : (va_up (va_up (va_up (va_up (va_up (va_up G x0 (.inr (.inl (13, [.ref r1_0, .int i1_1, .int (i1_2 + 1)])))) N (.inl (4, (n13, .inr (.inr (.inr (.inr (fun _ => none)))))))) N (.inl (4, (n13, .inr (.inr (.inr (.inr (va_cpy f3 (fun _ => none) (0 : Int32).toNatClampNeg (0 : Int32).toNatClampNeg (Int32.ofNat n3 + (c_shr (Int32.ofNat n3) 1)).toNatClampNeg)))))))) x0 (.inr (.inl (13, [.ref N, .int i1_1, .int (i1_2 + 1)])))) N (.inl (4, (n13, .inr (.inr (.inr (.inr (va_up (va_cpy f3 (fun _ => none) (0 : Int32).toNatClampNeg (0 : Int32).toNatClampNeg (Int32.ofNat n3 + (c_shr (Int32.ofNat n3) 1)).toNatClampNeg) i1_1.toNatClampNeg (some y1))))))))) x0 (.inr (.inl (13, [.ref N, .int (i1_1 + 1), .int (i1_2 + 1)])))) x0 = .inr (.inl (13, [.ref N, .int (i1_1 + 1), .int (i1_2 + 1)])) := up_eq
              refine w_vret (pc1 := 23) rfl rfl rfl ?_
              refine w_mv (pc1 := 24) (st1 := [.int 1]) rfl rfl rfl ?_
              refine sx_wp.stop rfl rfl rfl ?_
              exact c_acc (hP _ _ _ _ _ hh) (by omega) (by omega)
            ·
              replace hh := hh.2 (Int.not_lt.mp h17)
              refine w_igt_F (pc1 := 5) rfl (by decide) rfl (show (Int32.ofNat n3).toInt ≤ (Int32.ofNat n3 + (c_shr (Int32.ofNat n3) 1)).toInt from (Int.not_lt.mp h17)) ?_
              refine w_mv (pc1 := 6) (st1 := [.int (Int32.ofNat n3)]) rfl rfl rfl ?_
              refine w_mv (pc1 := 10) (st1 := [.int (Int32.ofNat n3)]) rfl rfl rfl ?_
              refine w_iret (pc1 := 35) rfl rfl rfl rfl ?_
              obtain ⟨q29a, hh⟩ := hh
              refine cw_cpq (sp := (0 : Int32)) (dp := (0 : Int32)) (n := (Int32.ofNat n3)) (pc1 := 38) rfl (by omega) (by omega) g15 (by omega) (by omega) g16 (by omega) (Nat.le_of_ble_eq_true rfl) q29a rfl ?_
              have g30 : (va_up (va_up (va_up G x0 (.inr (.inl (13, [.ref r1_0, .int i1_1, .int (i1_2 + 1)])))) N (.inl (4, (n13, .inr (.inr (.inr (.inr (fun _ => none)))))))) N (.inl (4, (n13, .inr (.inr (.inr (.inr (va_cpy f3 (fun _ => none) (0 : Int32).toNatClampNeg (0 : Int32).toNatClampNeg (Int32.ofNat n3).toNatClampNeg)))))))) x0 = .inr (.inl (13, [.ref r1_0, .int i1_1, .int (i1_2 + 1)])) := (va_ne (ne_oa g14 g16)).trans g14
              have g31 : (va_up (va_up (va_up G x0 (.inr (.inl (13, [.ref r1_0, .int i1_1, .int (i1_2 + 1)])))) N (.inl (4, (n13, .inr (.inr (.inr (.inr (fun _ => none)))))))) N (.inl (4, (n13, .inr (.inr (.inr (.inr (va_cpy f3 (fun _ => none) (0 : Int32).toNatClampNeg (0 : Int32).toNatClampNeg (Int32.ofNat n3).toNatClampNeg)))))))) N = .inl (4, (n13, .inr (.inr (.inr (.inr (va_cpy f3 (fun _ => none) (0 : Int32).toNatClampNeg (0 : Int32).toNatClampNeg (Int32.ofNat n3).toNatClampNeg)))))) := up_eq
              refine w_mv (pc1 := 39) (st1 := [.ref N]) rfl rfl rfl ?_
              refine w_aret (pc1 := 9) rfl rfl rfl rfl ?_
              refine w_aret (pc1 := 40) rfl rfl rfl rfl ?_
              refine w_mv (pc1 := 41) (st1 := [.ref N, .ref x0, .ref N]) rfl rfl rfl ?_
              refine cw_pf (c1 := .inr (.inl (13, [.ref N, .int i1_1, .int (i1_2 + 1)]))) (pc1 := 44) rfl (by omega) (by omega) g30 rfl rfl rfl rfl ?_
              have g32 : (va_up (va_up (va_up (va_up G x0 (.inr (.inl (13, [.ref r1_0, .int i1_1, .int (i1_2 + 1)])))) N (.inl (4, (n13, .inr (.inr (.inr (.inr (fun _ => none)))))))) N (.inl (4, (n13, .inr (.inr (.inr (.inr (va_cpy f3 (fun _ => none) (0 : Int32).toNatClampNeg (0 : Int32).toNatClampNeg (Int32.ofNat n3).toNatClampNeg)))))))) x0 (.inr (.inl (13, [.ref N, .int i1_1, .int (i1_2 + 1)])))) N = .inl (4, (n13, .inr (.inr (.inr (.inr (va_cpy f3 (fun _ => none) (0 : Int32).toNatClampNeg (0 : Int32).toNatClampNeg (Int32.ofNat n3).toNatClampNeg)))))) := (va_ne (ne_ao g31 g30)).trans g31
              have g33 : (va_up (va_up (va_up (va_up G x0 (.inr (.inl (13, [.ref r1_0, .int i1_1, .int (i1_2 + 1)])))) N (.inl (4, (n13, .inr (.inr (.inr (.inr (fun _ => none)))))))) N (.inl (4, (n13, .inr (.inr (.inr (.inr (va_cpy f3 (fun _ => none) (0 : Int32).toNatClampNeg (0 : Int32).toNatClampNeg (Int32.ofNat n3).toNatClampNeg)))))))) x0 (.inr (.inl (13, [.ref N, .int i1_1, .int (i1_2 + 1)])))) x0 = .inr (.inl (13, [.ref N, .int i1_1, .int (i1_2 + 1)])) := up_eq
              refine w_aret (pc1 := 10) rfl rfl rfl rfl ?_
              refine w_aret (pc1 := 10) rfl rfl rfl rfl ?_
              refine w_mv (pc1 := 11) (lv1 := [(2, .ref N), (0, .ref x0), (1, .ref y1), (3, .int i1_1)]) (st1 := []) rfl rfl rfl ?_
              refine w_mv (pc1 := 12) (st1 := [.ref N]) rfl rfl rfl ?_
              refine w_mv (pc1 := 13) (st1 := [.int i1_1, .ref N]) rfl rfl rfl ?_
              refine w_mv (pc1 := 14) (st1 := [.ref y1, .int i1_1, .ref N]) rfl rfl rfl ?_
              obtain ⟨q34a, q34b, hh⟩ := hh
              obtain ⟨u35a, u35b, c35, w35, u35c, u35d, hh⟩ := hh
              refine cw_as (pc1 := 15) rfl (by omega) (by omega) g32 (by omega) (by omega) u35c u35d q34a q34b rfl ?_
              have g36 : (va_up (va_up (va_up (va_up (va_up G x0 (.inr (.inl (13, [.ref r1_0, .int i1_1, .int (i1_2 + 1)])))) N (.inl (4, (n13, .inr (.inr (.inr (.inr (fun _ => none)))))))) N (.inl (4, (n13, .inr (.inr (.inr (.inr (va_cpy f3 (fun _ => none) (0 : Int32).toNatClampNeg (0 : Int32).toNatClampNeg (Int32.ofNat n3).toNatClampNeg)))))))) x0 (.inr (.inl (13, [.ref N, .int i1_1, .int (i1_2 + 1)])))) N (.inl (4, (n13, .inr (.inr (.inr (.inr (va_up (va_cpy f3 (fun _ => none) (0 : Int32).toNatClampNeg (0 : Int32).toNatClampNeg (Int32.ofNat n3).toNatClampNeg) i1_1.toNatClampNeg (some y1))))))))) x0 = .inr (.inl (13, [.ref N, .int i1_1, .int (i1_2 + 1)])) := (va_ne (ne_oa g33 g32)).trans g33
              have g37 : (va_up (va_up (va_up (va_up (va_up G x0 (.inr (.inl (13, [.ref r1_0, .int i1_1, .int (i1_2 + 1)])))) N (.inl (4, (n13, .inr (.inr (.inr (.inr (fun _ => none)))))))) N (.inl (4, (n13, .inr (.inr (.inr (.inr (va_cpy f3 (fun _ => none) (0 : Int32).toNatClampNeg (0 : Int32).toNatClampNeg (Int32.ofNat n3).toNatClampNeg)))))))) x0 (.inr (.inl (13, [.ref N, .int i1_1, .int (i1_2 + 1)])))) N (.inl (4, (n13, .inr (.inr (.inr (.inr (va_up (va_cpy f3 (fun _ => none) (0 : Int32).toNatClampNeg (0 : Int32).toNatClampNeg (Int32.ofNat n3).toNatClampNeg) i1_1.toNatClampNeg (some y1))))))))) N = .inl (4, (n13, .inr (.inr (.inr (.inr (va_up (va_cpy f3 (fun _ => none) (0 : Int32).toNatClampNeg (0 : Int32).toNatClampNeg (Int32.ofNat n3).toNatClampNeg) i1_1.toNatClampNeg (some y1))))))) := up_eq
              refine w_mv (pc1 := 16) (st1 := [.ref x0]) rfl rfl rfl ?_
              refine w_mv (pc1 := 17) (st1 := [.int i1_1, .ref x0]) rfl rfl rfl ?_
              refine w_mv (pc1 := 18) (st1 := [.int 1, .int i1_1, .ref x0]) rfl rfl rfl ?_
              refine w_mv (pc1 := 19) (st1 := [.int (i1_1 + 1), .ref x0]) rfl rfl rfl ?_
              refine cw_pf (c1 := .inr (.inl (13, [.ref N, .int (i1_1 + 1), .int (i1_2 + 1)]))) (pc1 := 22) rfl (by omega) (by omega) g36 rfl rfl rfl rfl ?_
              have g38 : (va_up (va_up (va_up (va_up (va_up (va_up G x0 (.inr (.inl (13, [.ref r1_0, .int i1_1, .int (i1_2 + 1)])))) N (.inl (4, (n13, .inr (.inr (.inr (.inr (fun _ => none)))))))) N (.inl (4, (n13, .inr (.inr (.inr (.inr (va_cpy f3 (fun _ => none) (0 : Int32).toNatClampNeg (0 : Int32).toNatClampNeg (Int32.ofNat n3).toNatClampNeg)))))))) x0 (.inr (.inl (13, [.ref N, .int i1_1, .int (i1_2 + 1)])))) N (.inl (4, (n13, .inr (.inr (.inr (.inr (va_up (va_cpy f3 (fun _ => none) (0 : Int32).toNatClampNeg (0 : Int32).toNatClampNeg (Int32.ofNat n3).toNatClampNeg) i1_1.toNatClampNeg (some y1))))))))) x0 (.inr (.inl (13, [.ref N, .int (i1_1 + 1), .int (i1_2 + 1)])))) N = .inl (4, (n13, .inr (.inr (.inr (.inr (va_up (va_cpy f3 (fun _ => none) (0 : Int32).toNatClampNeg (0 : Int32).toNatClampNeg (Int32.ofNat n3).toNatClampNeg) i1_1.toNatClampNeg (some y1))))))) := (va_ne (ne_ao g37 g36)).trans g37
              have g39 : (va_up (va_up (va_up (va_up (va_up (va_up G x0 (.inr (.inl (13, [.ref r1_0, .int i1_1, .int (i1_2 + 1)])))) N (.inl (4, (n13, .inr (.inr (.inr (.inr (fun _ => none)))))))) N (.inl (4, (n13, .inr (.inr (.inr (.inr (va_cpy f3 (fun _ => none) (0 : Int32).toNatClampNeg (0 : Int32).toNatClampNeg (Int32.ofNat n3).toNatClampNeg)))))))) x0 (.inr (.inl (13, [.ref N, .int i1_1, .int (i1_2 + 1)])))) N (.inl (4, (n13, .inr (.inr (.inr (.inr (va_up (va_cpy f3 (fun _ => none) (0 : Int32).toNatClampNeg (0 : Int32).toNatClampNeg (Int32.ofNat n3).toNatClampNeg) i1_1.toNatClampNeg (some y1))))))))) x0 (.inr (.inl (13, [.ref N, .int (i1_1 + 1), .int (i1_2 + 1)])))) x0 = .inr (.inl (13, [.ref N, .int (i1_1 + 1), .int (i1_2 + 1)])) := up_eq
              refine w_vret (pc1 := 23) rfl rfl rfl ?_
              refine w_mv (pc1 := 24) (st1 := [.int 1]) rfl rfl rfl ?_
              refine sx_wp.stop rfl rfl rfl ?_
              exact c_acc (hP _ _ _ _ _ hh) (by omega) (by omega)
      ·
        replace hh := hh.2 (Int.not_lt.mp h6)
        refine w_ilt_F (pc1 := 5) rfl (by decide) rfl (show (c_shr (Int32.ofNat n3) 1).toInt ≤ (i1_1 + 1 - Int32.ofNat n3).toInt from (Int.not_lt.mp h6)) ?_
        refine w_mv (pc1 := 6) (st1 := [.int (i1_1 + 1 - Int32.ofNat n3)]) rfl rfl rfl ?_
        refine w_mv (pc1 := 10) (st1 := [.int (i1_1 + 1 - Int32.ofNat n3)]) rfl rfl rfl ?_
        refine w_iret (pc1 := 6) rfl rfl rfl rfl ?_
        refine w_mv (pc1 := 7) (st1 := [.int (Int32.ofNat n3 + (i1_1 + 1 - Int32.ofNat n3))]) rfl rfl rfl ?_
        refine w_mv (pc1 := 8) (lv1 := [(3, .int (Int32.ofNat n3 + (i1_1 + 1 - Int32.ofNat n3))), (0, .int (Int32.ofNat n3)), (1, .int (i1_1 + 1 - Int32.ofNat n3)), (2, .int (c_shr (Int32.ofNat n3) 1))]) (st1 := []) rfl rfl rfl ?_
        refine w_mv (pc1 := 9) (st1 := [.int 0]) rfl rfl rfl ?_
        refine w_mv (pc1 := 10) (st1 := [.int (Int32.ofNat n3 + (i1_1 + 1 - Int32.ofNat n3)), .int 0]) rfl rfl rfl ?_
        by_cases h40 : (Int32.ofNat n3 + (i1_1 + 1 - Int32.ofNat n3)).toInt ≤ 0
        ·
          replace hh := hh.1 h40
          refine w_ige_T (pc1 := 21) rfl rfl (show (Int32.ofNat n3 + (i1_1 + 1 - Int32.ofNat n3)).toInt ≤ 0 from h40) ?_
          refine w_mv (pc1 := 22) (st1 := [.int (Int32.ofNat n3)]) rfl rfl rfl ?_
          refine w_mv (pc1 := 23) (st1 := [.int (i1_1 + 1 - Int32.ofNat n3), .int (Int32.ofNat n3)]) rfl rfl rfl ?_
          exact hh.elim
        ·
          replace hh := hh.2 (Int.not_le.mp h40)
          refine w_ige_F (pc1 := 13) rfl (by decide) rfl (show 0 < (Int32.ofNat n3 + (i1_1 + 1 - Int32.ofNat n3)).toInt from (Int.not_le.mp h40)) ?_
          refine w_mv (pc1 := 14) (st1 := [.int (Int32.ofNat n3 + (i1_1 + 1 - Int32.ofNat n3))]) rfl rfl rfl ?_
          refine w_mv (pc1 := 16) (st1 := [.int 2147483639, .int (Int32.ofNat n3 + (i1_1 + 1 - Int32.ofNat n3))]) rfl rfl rfl ?_
          by_cases h41 : 2147483639 < (Int32.ofNat n3 + (i1_1 + 1 - Int32.ofNat n3)).toInt
          ·
            replace hh := hh.1 h41
            refine w_igt_T (pc1 := 21) rfl rfl (show 2147483639 < (Int32.ofNat n3 + (i1_1 + 1 - Int32.ofNat n3)).toInt from h41) ?_
            refine w_mv (pc1 := 22) (st1 := [.int (Int32.ofNat n3)]) rfl rfl rfl ?_
            refine w_mv (pc1 := 23) (st1 := [.int (i1_1 + 1 - Int32.ofNat n3), .int (Int32.ofNat n3)]) rfl rfl rfl ?_
            exact hh.elim
          ·
            replace hh := hh.2 (Int.not_lt.mp h41)
            refine w_igt_F (pc1 := 19) rfl (by decide) rfl (show (Int32.ofNat n3 + (i1_1 + 1 - Int32.ofNat n3)).toInt ≤ 2147483639 from (Int.not_lt.mp h41)) ?_
            refine w_mv (pc1 := 20) (st1 := [.int (Int32.ofNat n3 + (i1_1 + 1 - Int32.ofNat n3))]) rfl rfl rfl ?_
            refine w_iret (pc1 := 30) rfl rfl rfl rfl ?_
            refine w_mv (pc1 := 31) (lv1 := [(3, .int (Int32.ofNat n3 + (i1_1 + 1 - Int32.ofNat n3))), (2, .int (Int32.ofNat n3)), (0, .ref x0), (1, .int (i1_1 + 1))]) (st1 := []) rfl rfl rfl ?_
            refine w_mv (pc1 := 32) (st1 := [.ref x0]) rfl rfl rfl ?_
            refine w_mv (pc1 := 33) (st1 := [.ref x0, .ref x0]) rfl rfl rfl ?_
            refine cw_gf (v := .ref r1_0) (pc1 := 36) rfl (by omega) (by omega) g2 rfl rfl ?_
            refine w_mv (pc1 := 37) (st1 := [.int (Int32.ofNat n3 + (i1_1 + 1 - Int32.ofNat n3)), .ref r1_0, .ref x0]) rfl rfl rfl ?_
            refine w_call (M' := sM_172) (vals := [.ref r1_0, .int (Int32.ofNat n3 + (i1_1 + 1 - Int32.ofNat n3))]) (rest := [.ref x0]) (lv' := [(0, .ref r1_0), (1, .int (Int32.ofNat n3 + (i1_1 + 1 - Int32.ofNat n3)))]) rfl rfl rfl rfl rfl rfl rfl rfl rfl rfl ?_
            refine w_mv (pc1 := 1) (st1 := [.ref r1_0]) rfl rfl rfl ?_
            refine w_mv (pc1 := 2) (st1 := [.int (Int32.ofNat n3 + (i1_1 + 1 - Int32.ofNat n3)), .ref r1_0]) rfl rfl rfl ?_
            refine w_mv (pc1 := 3) (st1 := [.ref r1_0, .int (Int32.ofNat n3 + (i1_1 + 1 - Int32.ofNat n3)), .ref r1_0]) rfl rfl rfl ?_
            obtain ⟨q42a, hh⟩ := hh
            obtain ⟨q43a, hh⟩ := hh
            refine cw_gc (pc1 := 6) rfl (by omega) (by omega) g3 q43a (by omega) (Nat.le_of_ble_eq_true rfl) rfl ?_
            refine w_call (M' := sM_173) (vals := [.ref r1_0, .int (Int32.ofNat n3 + (i1_1 + 1 - Int32.ofNat n3)), .ref 4]) (rest := []) (lv' := [(0, .ref r1_0), (1, .int (Int32.ofNat n3 + (i1_1 + 1 - Int32.ofNat n3))), (2, .ref 4)]) rfl rfl rfl rfl rfl rfl rfl rfl rfl rfl ?_
            refine w_mv (pc1 := 1) (st1 := [.ref 4]) rfl rfl rfl ?_
            obtain ⟨q44a, hh⟩ := hh
            refine cw_lc (pc1 := 6) rfl q44a (by omega) (Nat.le_of_ble_eq_true rfl) rfl ?_
            refine w_mv (pc1 := 7) (st1 := [.int (Int32.ofNat n3 + (i1_1 + 1 - Int32.ofNat n3))]) rfl rfl rfl ?_
            obtain ⟨q45a, hh⟩ := hh
            obtain ⟨n46, q46a, q46b, q46c, hh⟩ := hh
            refine cw_newq (n := n46) (pc1 := 10) rfl rfl (Int32.le_iff_toInt_le.mpr q46a) q46b q46c ?_
            have g47 : (va_up (va_up G x0 (.inr (.inl (13, [.ref r1_0, .int i1_1, .int (i1_2 + 1)])))) N (.inl (4, (n46, .inr (.inr (.inr (.inr (fun _ => none)))))))) x0 = .inr (.inl (13, [.ref r1_0, .int i1_1, .int (i1_2 + 1)])) := (va_ne (by omega)).trans g2
            have g48 : (va_up (va_up G x0 (.inr (.inl (13, [.ref r1_0, .int i1_1, .int (i1_2 + 1)])))) N (.inl (4, (n46, .inr (.inr (.inr (.inr (fun _ => none)))))))) r1_0 = .inl (4, (n3, .inr (.inr (.inr (.inr f3))))) := (va_ne (by omega)).trans g3
            have g49 : (va_up (va_up G x0 (.inr (.inl (13, [.ref r1_0, .int i1_1, .int (i1_2 + 1)])))) N (.inl (4, (n46, .inr (.inr (.inr (.inr (fun _ => none)))))))) N = .inl (4, (n46, .inr (.inr (.inr (.inr (fun _ => none)))))) := up_eq
            refine w_mv (pc1 := 24) (st1 := [.ref N]) rfl rfl rfl ?_
            refine w_mv (pc1 := 25) (lv1 := [(3, .ref N), (0, .ref r1_0), (1, .int (Int32.ofNat n3 + (i1_1 + 1 - Int32.ofNat n3))), (2, .ref 4)]) (st1 := []) rfl rfl rfl ?_
            refine w_mv (pc1 := 26) (st1 := [.ref r1_0]) rfl rfl rfl ?_
            refine w_mv (pc1 := 27) (st1 := [.int 0, .ref r1_0]) rfl rfl rfl ?_
            refine w_mv (pc1 := 28) (st1 := [.ref N, .int 0, .ref r1_0]) rfl rfl rfl ?_
            refine w_mv (pc1 := 29) (st1 := [.int 0, .ref N, .int 0, .ref r1_0]) rfl rfl rfl ?_
            refine w_mv (pc1 := 30) (st1 := [.ref r1_0, .int 0, .ref N, .int 0, .ref r1_0]) rfl rfl rfl ?_
            refine cw_alen (pc1 := 31) rfl (by omega) g48 rfl ?_
            refine w_mv (pc1 := 32) (st1 := [.int (Int32.ofNat n3 + (i1_1 + 1 - Int32.ofNat n3)), .int (Int32.ofNat n3), .int 0, .ref N, .int 0, .ref r1_0]) rfl rfl rfl ?_
            refine w_call (M' := sM_174) (vals := [.int (Int32.ofNat n3), .int (Int32.ofNat n3 + (i1_1 + 1 - Int32.ofNat n3))]) (rest := [.int 0, .ref N, .int 0, .ref r1_0]) (lv' := [(0, .int (Int32.ofNat n3)), (1, .int (Int32.ofNat n3 + (i1_1 + 1 - Int32.ofNat n3)))]) rfl rfl rfl rfl rfl rfl rfl rfl rfl rfl ?_
            refine w_mv (pc1 := 1) (st1 := [.int (Int32.ofNat n3)]) rfl rfl rfl ?_
            refine w_mv (pc1 := 2) (st1 := [.int (Int32.ofNat n3 + (i1_1 + 1 - Int32.ofNat n3)), .int (Int32.ofNat n3)]) rfl rfl rfl ?_
            by_cases h50 : (Int32.ofNat n3 + (i1_1 + 1 - Int32.ofNat n3)).toInt < (Int32.ofNat n3).toInt
            ·
              replace hh := hh.1 h50
              refine w_igt_T (pc1 := 9) rfl rfl (show (Int32.ofNat n3 + (i1_1 + 1 - Int32.ofNat n3)).toInt < (Int32.ofNat n3).toInt from h50) ?_
              refine w_mv (pc1 := 10) (st1 := [.int (Int32.ofNat n3 + (i1_1 + 1 - Int32.ofNat n3))]) rfl rfl rfl ?_
              refine w_iret (pc1 := 35) rfl rfl rfl rfl ?_
              obtain ⟨q51a, hh⟩ := hh
              refine cw_cpq (sp := (0 : Int32)) (dp := (0 : Int32)) (n := (Int32.ofNat n3 + (i1_1 + 1 - Int32.ofNat n3))) (pc1 := 38) rfl (by omega) (by omega) g48 (by omega) (by omega) g49 (by omega) (Nat.le_of_ble_eq_true rfl) q51a rfl ?_
              have g52 : (va_up (va_up (va_up G x0 (.inr (.inl (13, [.ref r1_0, .int i1_1, .int (i1_2 + 1)])))) N (.inl (4, (n46, .inr (.inr (.inr (.inr (fun _ => none)))))))) N (.inl (4, (n46, .inr (.inr (.inr (.inr (va_cpy f3 (fun _ => none) (0 : Int32).toNatClampNeg (0 : Int32).toNatClampNeg (Int32.ofNat n3 + (i1_1 + 1 - Int32.ofNat n3)).toNatClampNeg)))))))) x0 = .inr (.inl (13, [.ref r1_0, .int i1_1, .int (i1_2 + 1)])) := (va_ne (ne_oa g47 g49)).trans g47
              have g53 : (va_up (va_up (va_up G x0 (.inr (.inl (13, [.ref r1_0, .int i1_1, .int (i1_2 + 1)])))) N (.inl (4, (n46, .inr (.inr (.inr (.inr (fun _ => none)))))))) N (.inl (4, (n46, .inr (.inr (.inr (.inr (va_cpy f3 (fun _ => none) (0 : Int32).toNatClampNeg (0 : Int32).toNatClampNeg (Int32.ofNat n3 + (i1_1 + 1 - Int32.ofNat n3)).toNatClampNeg)))))))) N = .inl (4, (n46, .inr (.inr (.inr (.inr (va_cpy f3 (fun _ => none) (0 : Int32).toNatClampNeg (0 : Int32).toNatClampNeg (Int32.ofNat n3 + (i1_1 + 1 - Int32.ofNat n3)).toNatClampNeg)))))) := up_eq
              refine w_mv (pc1 := 39) (st1 := [.ref N]) rfl rfl rfl ?_
              refine w_aret (pc1 := 9) rfl rfl rfl rfl ?_
              refine w_aret (pc1 := 40) rfl rfl rfl rfl ?_
              refine w_mv (pc1 := 41) (st1 := [.ref N, .ref x0, .ref N]) rfl rfl rfl ?_
              refine cw_pf (c1 := .inr (.inl (13, [.ref N, .int i1_1, .int (i1_2 + 1)]))) (pc1 := 44) rfl (by omega) (by omega) g52 rfl rfl rfl rfl ?_
              have g54 : (va_up (va_up (va_up (va_up G x0 (.inr (.inl (13, [.ref r1_0, .int i1_1, .int (i1_2 + 1)])))) N (.inl (4, (n46, .inr (.inr (.inr (.inr (fun _ => none)))))))) N (.inl (4, (n46, .inr (.inr (.inr (.inr (va_cpy f3 (fun _ => none) (0 : Int32).toNatClampNeg (0 : Int32).toNatClampNeg (Int32.ofNat n3 + (i1_1 + 1 - Int32.ofNat n3)).toNatClampNeg)))))))) x0 (.inr (.inl (13, [.ref N, .int i1_1, .int (i1_2 + 1)])))) N = .inl (4, (n46, .inr (.inr (.inr (.inr (va_cpy f3 (fun _ => none) (0 : Int32).toNatClampNeg (0 : Int32).toNatClampNeg (Int32.ofNat n3 + (i1_1 + 1 - Int32.ofNat n3)).toNatClampNeg)))))) := (va_ne (ne_ao g53 g52)).trans g53
              have g55 : (va_up (va_up (va_up (va_up G x0 (.inr (.inl (13, [.ref r1_0, .int i1_1, .int (i1_2 + 1)])))) N (.inl (4, (n46, .inr (.inr (.inr (.inr (fun _ => none)))))))) N (.inl (4, (n46, .inr (.inr (.inr (.inr (va_cpy f3 (fun _ => none) (0 : Int32).toNatClampNeg (0 : Int32).toNatClampNeg (Int32.ofNat n3 + (i1_1 + 1 - Int32.ofNat n3)).toNatClampNeg)))))))) x0 (.inr (.inl (13, [.ref N, .int i1_1, .int (i1_2 + 1)])))) x0 = .inr (.inl (13, [.ref N, .int i1_1, .int (i1_2 + 1)])) := up_eq
              refine w_aret (pc1 := 10) rfl rfl rfl rfl ?_
              refine w_aret (pc1 := 10) rfl rfl rfl rfl ?_
              refine w_mv (pc1 := 11) (lv1 := [(2, .ref N), (0, .ref x0), (1, .ref y1), (3, .int i1_1)]) (st1 := []) rfl rfl rfl ?_
              refine w_mv (pc1 := 12) (st1 := [.ref N]) rfl rfl rfl ?_
              refine w_mv (pc1 := 13) (st1 := [.int i1_1, .ref N]) rfl rfl rfl ?_
              refine w_mv (pc1 := 14) (st1 := [.ref y1, .int i1_1, .ref N]) rfl rfl rfl ?_
              obtain ⟨q56a, q56b, hh⟩ := hh
              obtain ⟨u57a, u57b, c57, w57, u57c, u57d, hh⟩ := hh
              refine cw_as (pc1 := 15) rfl (by omega) (by omega) g54 (by omega) (by omega) u57c u57d q56a q56b rfl ?_
              have g58 : (va_up (va_up (va_up (va_up (va_up G x0 (.inr (.inl (13, [.ref r1_0, .int i1_1, .int (i1_2 + 1)])))) N (.inl (4, (n46, .inr (.inr (.inr (.inr (fun _ => none)))))))) N (.inl (4, (n46, .inr (.inr (.inr (.inr (va_cpy f3 (fun _ => none) (0 : Int32).toNatClampNeg (0 : Int32).toNatClampNeg (Int32.ofNat n3 + (i1_1 + 1 - Int32.ofNat n3)).toNatClampNeg)))))))) x0 (.inr (.inl (13, [.ref N, .int i1_1, .int (i1_2 + 1)])))) N (.inl (4, (n46, .inr (.inr (.inr (.inr (va_up (va_cpy f3 (fun _ => none) (0 : Int32).toNatClampNeg (0 : Int32).toNatClampNeg (Int32.ofNat n3 + (i1_1 + 1 - Int32.ofNat n3)).toNatClampNeg) i1_1.toNatClampNeg (some y1))))))))) x0 = .inr (.inl (13, [.ref N, .int i1_1, .int (i1_2 + 1)])) := (va_ne (ne_oa g55 g54)).trans g55
              have g59 : (va_up (va_up (va_up (va_up (va_up G x0 (.inr (.inl (13, [.ref r1_0, .int i1_1, .int (i1_2 + 1)])))) N (.inl (4, (n46, .inr (.inr (.inr (.inr (fun _ => none)))))))) N (.inl (4, (n46, .inr (.inr (.inr (.inr (va_cpy f3 (fun _ => none) (0 : Int32).toNatClampNeg (0 : Int32).toNatClampNeg (Int32.ofNat n3 + (i1_1 + 1 - Int32.ofNat n3)).toNatClampNeg)))))))) x0 (.inr (.inl (13, [.ref N, .int i1_1, .int (i1_2 + 1)])))) N (.inl (4, (n46, .inr (.inr (.inr (.inr (va_up (va_cpy f3 (fun _ => none) (0 : Int32).toNatClampNeg (0 : Int32).toNatClampNeg (Int32.ofNat n3 + (i1_1 + 1 - Int32.ofNat n3)).toNatClampNeg) i1_1.toNatClampNeg (some y1))))))))) N = .inl (4, (n46, .inr (.inr (.inr (.inr (va_up (va_cpy f3 (fun _ => none) (0 : Int32).toNatClampNeg (0 : Int32).toNatClampNeg (Int32.ofNat n3 + (i1_1 + 1 - Int32.ofNat n3)).toNatClampNeg) i1_1.toNatClampNeg (some y1))))))) := up_eq
              refine w_mv (pc1 := 16) (st1 := [.ref x0]) rfl rfl rfl ?_
              refine w_mv (pc1 := 17) (st1 := [.int i1_1, .ref x0]) rfl rfl rfl ?_
              refine w_mv (pc1 := 18) (st1 := [.int 1, .int i1_1, .ref x0]) rfl rfl rfl ?_
              refine w_mv (pc1 := 19) (st1 := [.int (i1_1 + 1), .ref x0]) rfl rfl rfl ?_
              refine cw_pf (c1 := .inr (.inl (13, [.ref N, .int (i1_1 + 1), .int (i1_2 + 1)]))) (pc1 := 22) rfl (by omega) (by omega) g58 rfl rfl rfl rfl ?_
              have g60 : (va_up (va_up (va_up (va_up (va_up (va_up G x0 (.inr (.inl (13, [.ref r1_0, .int i1_1, .int (i1_2 + 1)])))) N (.inl (4, (n46, .inr (.inr (.inr (.inr (fun _ => none)))))))) N (.inl (4, (n46, .inr (.inr (.inr (.inr (va_cpy f3 (fun _ => none) (0 : Int32).toNatClampNeg (0 : Int32).toNatClampNeg (Int32.ofNat n3 + (i1_1 + 1 - Int32.ofNat n3)).toNatClampNeg)))))))) x0 (.inr (.inl (13, [.ref N, .int i1_1, .int (i1_2 + 1)])))) N (.inl (4, (n46, .inr (.inr (.inr (.inr (va_up (va_cpy f3 (fun _ => none) (0 : Int32).toNatClampNeg (0 : Int32).toNatClampNeg (Int32.ofNat n3 + (i1_1 + 1 - Int32.ofNat n3)).toNatClampNeg) i1_1.toNatClampNeg (some y1))))))))) x0 (.inr (.inl (13, [.ref N, .int (i1_1 + 1), .int (i1_2 + 1)])))) N = .inl (4, (n46, .inr (.inr (.inr (.inr (va_up (va_cpy f3 (fun _ => none) (0 : Int32).toNatClampNeg (0 : Int32).toNatClampNeg (Int32.ofNat n3 + (i1_1 + 1 - Int32.ofNat n3)).toNatClampNeg) i1_1.toNatClampNeg (some y1))))))) := (va_ne (ne_ao g59 g58)).trans g59
              have g61 : (va_up (va_up (va_up (va_up (va_up (va_up G x0 (.inr (.inl (13, [.ref r1_0, .int i1_1, .int (i1_2 + 1)])))) N (.inl (4, (n46, .inr (.inr (.inr (.inr (fun _ => none)))))))) N (.inl (4, (n46, .inr (.inr (.inr (.inr (va_cpy f3 (fun _ => none) (0 : Int32).toNatClampNeg (0 : Int32).toNatClampNeg (Int32.ofNat n3 + (i1_1 + 1 - Int32.ofNat n3)).toNatClampNeg)))))))) x0 (.inr (.inl (13, [.ref N, .int i1_1, .int (i1_2 + 1)])))) N (.inl (4, (n46, .inr (.inr (.inr (.inr (va_up (va_cpy f3 (fun _ => none) (0 : Int32).toNatClampNeg (0 : Int32).toNatClampNeg (Int32.ofNat n3 + (i1_1 + 1 - Int32.ofNat n3)).toNatClampNeg) i1_1.toNatClampNeg (some y1))))))))) x0 (.inr (.inl (13, [.ref N, .int (i1_1 + 1), .int (i1_2 + 1)])))) x0 = .inr (.inl (13, [.ref N, .int (i1_1 + 1), .int (i1_2 + 1)])) := up_eq
              refine w_vret (pc1 := 23) rfl rfl rfl ?_
              refine w_mv (pc1 := 24) (st1 := [.int 1]) rfl rfl rfl ?_
              refine sx_wp.stop rfl rfl rfl ?_
              exact c_acc (hP _ _ _ _ _ hh) (by omega) (by omega)
            ·
              replace hh := hh.2 (Int.not_lt.mp h50)
              refine w_igt_F (pc1 := 5) rfl (by decide) rfl (show (Int32.ofNat n3).toInt ≤ (Int32.ofNat n3 + (i1_1 + 1 - Int32.ofNat n3)).toInt from (Int.not_lt.mp h50)) ?_
              refine w_mv (pc1 := 6) (st1 := [.int (Int32.ofNat n3)]) rfl rfl rfl ?_
              refine w_mv (pc1 := 10) (st1 := [.int (Int32.ofNat n3)]) rfl rfl rfl ?_
              refine w_iret (pc1 := 35) rfl rfl rfl rfl ?_
              obtain ⟨q62a, hh⟩ := hh
              refine cw_cpq (sp := (0 : Int32)) (dp := (0 : Int32)) (n := (Int32.ofNat n3)) (pc1 := 38) rfl (by omega) (by omega) g48 (by omega) (by omega) g49 (by omega) (Nat.le_of_ble_eq_true rfl) q62a rfl ?_
              have g63 : (va_up (va_up (va_up G x0 (.inr (.inl (13, [.ref r1_0, .int i1_1, .int (i1_2 + 1)])))) N (.inl (4, (n46, .inr (.inr (.inr (.inr (fun _ => none)))))))) N (.inl (4, (n46, .inr (.inr (.inr (.inr (va_cpy f3 (fun _ => none) (0 : Int32).toNatClampNeg (0 : Int32).toNatClampNeg (Int32.ofNat n3).toNatClampNeg)))))))) x0 = .inr (.inl (13, [.ref r1_0, .int i1_1, .int (i1_2 + 1)])) := (va_ne (ne_oa g47 g49)).trans g47
              have g64 : (va_up (va_up (va_up G x0 (.inr (.inl (13, [.ref r1_0, .int i1_1, .int (i1_2 + 1)])))) N (.inl (4, (n46, .inr (.inr (.inr (.inr (fun _ => none)))))))) N (.inl (4, (n46, .inr (.inr (.inr (.inr (va_cpy f3 (fun _ => none) (0 : Int32).toNatClampNeg (0 : Int32).toNatClampNeg (Int32.ofNat n3).toNatClampNeg)))))))) N = .inl (4, (n46, .inr (.inr (.inr (.inr (va_cpy f3 (fun _ => none) (0 : Int32).toNatClampNeg (0 : Int32).toNatClampNeg (Int32.ofNat n3).toNatClampNeg)))))) := up_eq
              refine w_mv (pc1 := 39) (st1 := [.ref N]) rfl rfl rfl ?_
              refine w_aret (pc1 := 9) rfl rfl rfl rfl ?_
              refine w_aret (pc1 := 40) rfl rfl rfl rfl ?_
              refine w_mv (pc1 := 41) (st1 := [.ref N, .ref x0, .ref N]) rfl rfl rfl ?_
              refine cw_pf (c1 := .inr (.inl (13, [.ref N, .int i1_1, .int (i1_2 + 1)]))) (pc1 := 44) rfl (by omega) (by omega) g63 rfl rfl rfl rfl ?_
              have g65 : (va_up (va_up (va_up (va_up G x0 (.inr (.inl (13, [.ref r1_0, .int i1_1, .int (i1_2 + 1)])))) N (.inl (4, (n46, .inr (.inr (.inr (.inr (fun _ => none)))))))) N (.inl (4, (n46, .inr (.inr (.inr (.inr (va_cpy f3 (fun _ => none) (0 : Int32).toNatClampNeg (0 : Int32).toNatClampNeg (Int32.ofNat n3).toNatClampNeg)))))))) x0 (.inr (.inl (13, [.ref N, .int i1_1, .int (i1_2 + 1)])))) N = .inl (4, (n46, .inr (.inr (.inr (.inr (va_cpy f3 (fun _ => none) (0 : Int32).toNatClampNeg (0 : Int32).toNatClampNeg (Int32.ofNat n3).toNatClampNeg)))))) := (va_ne (ne_ao g64 g63)).trans g64
              have g66 : (va_up (va_up (va_up (va_up G x0 (.inr (.inl (13, [.ref r1_0, .int i1_1, .int (i1_2 + 1)])))) N (.inl (4, (n46, .inr (.inr (.inr (.inr (fun _ => none)))))))) N (.inl (4, (n46, .inr (.inr (.inr (.inr (va_cpy f3 (fun _ => none) (0 : Int32).toNatClampNeg (0 : Int32).toNatClampNeg (Int32.ofNat n3).toNatClampNeg)))))))) x0 (.inr (.inl (13, [.ref N, .int i1_1, .int (i1_2 + 1)])))) x0 = .inr (.inl (13, [.ref N, .int i1_1, .int (i1_2 + 1)])) := up_eq
              refine w_aret (pc1 := 10) rfl rfl rfl rfl ?_
              refine w_aret (pc1 := 10) rfl rfl rfl rfl ?_
              refine w_mv (pc1 := 11) (lv1 := [(2, .ref N), (0, .ref x0), (1, .ref y1), (3, .int i1_1)]) (st1 := []) rfl rfl rfl ?_
              refine w_mv (pc1 := 12) (st1 := [.ref N]) rfl rfl rfl ?_
              refine w_mv (pc1 := 13) (st1 := [.int i1_1, .ref N]) rfl rfl rfl ?_
              refine w_mv (pc1 := 14) (st1 := [.ref y1, .int i1_1, .ref N]) rfl rfl rfl ?_
              obtain ⟨q67a, q67b, hh⟩ := hh
              obtain ⟨u68a, u68b, c68, w68, u68c, u68d, hh⟩ := hh
              refine cw_as (pc1 := 15) rfl (by omega) (by omega) g65 (by omega) (by omega) u68c u68d q67a q67b rfl ?_
              have g69 : (va_up (va_up (va_up (va_up (va_up G x0 (.inr (.inl (13, [.ref r1_0, .int i1_1, .int (i1_2 + 1)])))) N (.inl (4, (n46, .inr (.inr (.inr (.inr (fun _ => none)))))))) N (.inl (4, (n46, .inr (.inr (.inr (.inr (va_cpy f3 (fun _ => none) (0 : Int32).toNatClampNeg (0 : Int32).toNatClampNeg (Int32.ofNat n3).toNatClampNeg)))))))) x0 (.inr (.inl (13, [.ref N, .int i1_1, .int (i1_2 + 1)])))) N (.inl (4, (n46, .inr (.inr (.inr (.inr (va_up (va_cpy f3 (fun _ => none) (0 : Int32).toNatClampNeg (0 : Int32).toNatClampNeg (Int32.ofNat n3).toNatClampNeg) i1_1.toNatClampNeg (some y1))))))))) x0 = .inr (.inl (13, [.ref N, .int i1_1, .int (i1_2 + 1)])) := (va_ne (ne_oa g66 g65)).trans g66
              have g70 : (va_up (va_up (va_up (va_up (va_up G x0 (.inr (.inl (13, [.ref r1_0, .int i1_1, .int (i1_2 + 1)])))) N (.inl (4, (n46, .inr (.inr (.inr (.inr (fun _ => none)))))))) N (.inl (4, (n46, .inr (.inr (.inr (.inr (va_cpy f3 (fun _ => none) (0 : Int32).toNatClampNeg (0 : Int32).toNatClampNeg (Int32.ofNat n3).toNatClampNeg)))))))) x0 (.inr (.inl (13, [.ref N, .int i1_1, .int (i1_2 + 1)])))) N (.inl (4, (n46, .inr (.inr (.inr (.inr (va_up (va_cpy f3 (fun _ => none) (0 : Int32).toNatClampNeg (0 : Int32).toNatClampNeg (Int32.ofNat n3).toNatClampNeg) i1_1.toNatClampNeg (some y1))))))))) N = .inl (4, (n46, .inr (.inr (.inr (.inr (va_up (va_cpy f3 (fun _ => none) (0 : Int32).toNatClampNeg (0 : Int32).toNatClampNeg (Int32.ofNat n3).toNatClampNeg) i1_1.toNatClampNeg (some y1))))))) := up_eq
              refine w_mv (pc1 := 16) (st1 := [.ref x0]) rfl rfl rfl ?_
              refine w_mv (pc1 := 17) (st1 := [.int i1_1, .ref x0]) rfl rfl rfl ?_
              refine w_mv (pc1 := 18) (st1 := [.int 1, .int i1_1, .ref x0]) rfl rfl rfl ?_
              refine w_mv (pc1 := 19) (st1 := [.int (i1_1 + 1), .ref x0]) rfl rfl rfl ?_
              refine cw_pf (c1 := .inr (.inl (13, [.ref N, .int (i1_1 + 1), .int (i1_2 + 1)]))) (pc1 := 22) rfl (by omega) (by omega) g69 rfl rfl rfl rfl ?_
              have g71 : (va_up (va_up (va_up (va_up (va_up (va_up G x0 (.inr (.inl (13, [.ref r1_0, .int i1_1, .int (i1_2 + 1)])))) N (.inl (4, (n46, .inr (.inr (.inr (.inr (fun _ => none)))))))) N (.inl (4, (n46, .inr (.inr (.inr (.inr (va_cpy f3 (fun _ => none) (0 : Int32).toNatClampNeg (0 : Int32).toNatClampNeg (Int32.ofNat n3).toNatClampNeg)))))))) x0 (.inr (.inl (13, [.ref N, .int i1_1, .int (i1_2 + 1)])))) N (.inl (4, (n46, .inr (.inr (.inr (.inr (va_up (va_cpy f3 (fun _ => none) (0 : Int32).toNatClampNeg (0 : Int32).toNatClampNeg (Int32.ofNat n3).toNatClampNeg) i1_1.toNatClampNeg (some y1))))))))) x0 (.inr (.inl (13, [.ref N, .int (i1_1 + 1), .int (i1_2 + 1)])))) N = .inl (4, (n46, .inr (.inr (.inr (.inr (va_up (va_cpy f3 (fun _ => none) (0 : Int32).toNatClampNeg (0 : Int32).toNatClampNeg (Int32.ofNat n3).toNatClampNeg) i1_1.toNatClampNeg (some y1))))))) := (va_ne (ne_ao g70 g69)).trans g70
              have g72 : (va_up (va_up (va_up (va_up (va_up (va_up G x0 (.inr (.inl (13, [.ref r1_0, .int i1_1, .int (i1_2 + 1)])))) N (.inl (4, (n46, .inr (.inr (.inr (.inr (fun _ => none)))))))) N (.inl (4, (n46, .inr (.inr (.inr (.inr (va_cpy f3 (fun _ => none) (0 : Int32).toNatClampNeg (0 : Int32).toNatClampNeg (Int32.ofNat n3).toNatClampNeg)))))))) x0 (.inr (.inl (13, [.ref N, .int i1_1, .int (i1_2 + 1)])))) N (.inl (4, (n46, .inr (.inr (.inr (.inr (va_up (va_cpy f3 (fun _ => none) (0 : Int32).toNatClampNeg (0 : Int32).toNatClampNeg (Int32.ofNat n3).toNatClampNeg) i1_1.toNatClampNeg (some y1))))))))) x0 (.inr (.inl (13, [.ref N, .int (i1_1 + 1), .int (i1_2 + 1)])))) x0 = .inr (.inl (13, [.ref N, .int (i1_1 + 1), .int (i1_2 + 1)])) := up_eq
              refine w_vret (pc1 := 23) rfl rfl rfl ?_
              refine w_mv (pc1 := 24) (st1 := [.int 1]) rfl rfl rfl ?_
              refine sx_wp.stop rfl rfl rfl ?_
              exact c_acc (hP _ _ _ _ _ hh) (by omega) (by omega)
    ·
      replace hh := hh.2 (Int.not_lt.mp h5)
      refine w_zgt_F (pc1 := 10) rfl (by decide) rfl (show (Int32.ofNat n3).toInt ≤ 0 from (Int.not_lt.mp h5)) ?_
      refine w_mv (pc1 := 11) (st1 := [.ref x0]) rfl rfl rfl ?_
      refine cw_gf (v := .ref r1_0) (pc1 := 14) rfl (by omega) (by omega) g2 rfl rfl ?_
      refine w_mv (pc1 := 17) (st1 := [.ref 1, .ref r1_0]) rfl rfl rfl ?_
      obtain ⟨q73a, hh⟩ := hh
      by_cases h74 : r1_0 = 1
      ·
        replace hh := hh.1 h74
        refine cw_acE_T (pc1 := 45) rfl rfl (op_r (by omega)) (op_r (by omega)) (o_eq h74) ?_
        refine w_mv (pc1 := 46) (st1 := [.ref x0]) rfl rfl rfl ?_
        refine w_mv (pc1 := 48) (st1 := [.int 10, .ref x0]) rfl rfl rfl ?_
        refine w_mv (pc1 := 49) (st1 := [.int (i1_1 + 1), .int 10, .ref x0]) rfl rfl rfl ?_
        refine w_call (M' := sM_171) (vals := [.int 10, .int (i1_1 + 1)]) (rest := [.ref x0]) (lv' := [(0, .int 10), (1, .int (i1_1 + 1))]) rfl rfl rfl rfl rfl rfl rfl rfl rfl rfl ?_
        refine w_mv (pc1 := 1) (st1 := [.int 10]) rfl rfl rfl ?_
        refine w_mv (pc1 := 2) (st1 := [.int (i1_1 + 1), .int 10]) rfl rfl rfl ?_
        by_cases h75 : 10 < (i1_1 + 1).toInt
        ·
          replace hh := hh.1 h75
          refine w_ilt_T (pc1 := 9) rfl rfl (show 10 < (i1_1 + 1).toInt from h75) ?_
          refine w_mv (pc1 := 10) (st1 := [.int (i1_1 + 1)]) rfl rfl rfl ?_
          refine w_iret (pc1 := 52) rfl rfl rfl rfl ?_
          obtain ⟨q76a, hh⟩ := hh
          obtain ⟨n77, q77a, q77b, q77c, hh⟩ := hh
          refine cw_newq (n := n77) (pc1 := 55) rfl rfl (Int32.le_iff_toInt_le.mpr q77a) q77b q77c ?_
          have g78 : (va_up (va_up G x0 (.inr (.inl (13, [.ref r1_0, .int i1_1, .int (i1_2 + 1)])))) N (.inl (4, (n77, .inr (.inr (.inr (.inr (fun _ => none)))))))) x0 = .inr (.inl (13, [.ref r1_0, .int i1_1, .int (i1_2 + 1)])) := (va_ne (by omega)).trans g2
          have g79 : (va_up (va_up G x0 (.inr (.inl (13, [.ref r1_0, .int i1_1, .int (i1_2 + 1)])))) N (.inl (4, (n77, .inr (.inr (.inr (.inr (fun _ => none)))))))) r1_0 = .inl (4, (n3, .inr (.inr (.inr (.inr f3))))) := (va_ne (by omega)).trans g3
          have g80 : (va_up (va_up G x0 (.inr (.inl (13, [.ref r1_0, .int i1_1, .int (i1_2 + 1)])))) N (.inl (4, (n77, .inr (.inr (.inr (.inr (fun _ => none)))))))) N = .inl (4, (n77, .inr (.inr (.inr (.inr (fun _ => none)))))) := up_eq
          refine w_mv (pc1 := 56) (st1 := [.ref N, .ref x0, .ref N]) rfl rfl rfl ?_
          refine cw_pf (c1 := .inr (.inl (13, [.ref N, .int i1_1, .int (i1_2 + 1)]))) (pc1 := 59) rfl (by omega) (by omega) g78 rfl rfl rfl rfl ?_
          have g81 : (va_up (va_up (va_up G x0 (.inr (.inl (13, [.ref r1_0, .int i1_1, .int (i1_2 + 1)])))) N (.inl (4, (n77, .inr (.inr (.inr (.inr (fun _ => none)))))))) x0 (.inr (.inl (13, [.ref N, .int i1_1, .int (i1_2 + 1)])))) r1_0 = .inl (4, (n3, .inr (.inr (.inr (.inr f3))))) := (va_ne (ne_ao g79 g78)).trans g79
          have g82 : (va_up (va_up (va_up G x0 (.inr (.inl (13, [.ref r1_0, .int i1_1, .int (i1_2 + 1)])))) N (.inl (4, (n77, .inr (.inr (.inr (.inr (fun _ => none)))))))) x0 (.inr (.inl (13, [.ref N, .int i1_1, .int (i1_2 + 1)])))) N = .inl (4, (n77, .inr (.inr (.inr (.inr (fun _ => none)))))) := (va_ne (ne_ao g80 g78)).trans g80
          have g83 : (va_up (va_up (va_up G x0 (.inr (.inl (13, [.ref r1_0, .int i1_1, .int (i1_2 + 1)])))) N (.inl (4, (n77, .inr (.inr (.inr (.inr (fun _ => none)))))))) x0 (.inr (.inl (13, [.ref N, .int i1_1, .int (i1_2 + 1)])))) x0 = .inr (.inl (13, [.ref N, .int i1_1, .int (i1_2 + 1)])) := up_eq
          refine w_aret (pc1 := 10) rfl rfl rfl rfl ?_
          refine w_aret (pc1 := 10) rfl rfl rfl rfl ?_
          refine w_mv (pc1 := 11) (lv1 := [(2, .ref N), (0, .ref x0), (1, .ref y1), (3, .int i1_1)]) (st1 := []) rfl rfl rfl ?_
          refine w_mv (pc1 := 12) (st1 := [.ref N]) rfl rfl rfl ?_
          refine w_mv (pc1 := 13) (st1 := [.int i1_1, .ref N]) rfl rfl rfl ?_
          refine w_mv (pc1 := 14) (st1 := [.ref y1, .int i1_1, .ref N]) rfl rfl rfl ?_
          obtain ⟨q84a, q84b, hh⟩ := hh
          obtain ⟨u85a, u85b, c85, w85, u85c, u85d, hh⟩ := hh
          refine cw_as (pc1 := 15) rfl (by omega) (by omega) g82 (by omega) (by omega) u85c u85d q84a q84b rfl ?_
          have g86 : (va_up (va_up (va_up (va_up G x0 (.inr (.inl (13, [.ref r1_0, .int i1_1, .int (i1_2 + 1)])))) N (.inl (4, (n77, .inr (.inr (.inr (.inr (fun _ => none)))))))) x0 (.inr (.inl (13, [.ref N, .int i1_1, .int (i1_2 + 1)])))) N (.inl (4, (n77, .inr (.inr (.inr (.inr (va_up (fun _ => none) i1_1.toNatClampNeg (some y1))))))))) x0 = .inr (.inl (13, [.ref N, .int i1_1, .int (i1_2 + 1)])) := (va_ne (ne_oa g83 g82)).trans g83
          have g87 : (va_up (va_up (va_up (va_up G x0 (.inr (.inl (13, [.ref r1_0, .int i1_1, .int (i1_2 + 1)])))) N (.inl (4, (n77, .inr (.inr (.inr (.inr (fun _ => none)))))))) x0 (.inr (.inl (13, [.ref N, .int i1_1, .int (i1_2 + 1)])))) N (.inl (4, (n77, .inr (.inr (.inr (.inr (va_up (fun _ => none) i1_1.toNatClampNeg (some y1))))))))) N = .inl (4, (n77, .inr (.inr (.inr (.inr (va_up (fun _ => none) i1_1.toNatClampNeg (some y1))))))) := up_eq
          refine w_mv (pc1 := 16) (st1 := [.ref x0]) rfl rfl rfl ?_
          refine w_mv (pc1 := 17) (st1 := [.int i1_1, .ref x0]) rfl rfl rfl ?_
          refine w_mv (pc1 := 18) (st1 := [.int 1, .int i1_1, .ref x0]) rfl rfl rfl ?_
          refine w_mv (pc1 := 19) (st1 := [.int (i1_1 + 1), .ref x0]) rfl rfl rfl ?_
          refine cw_pf (c1 := .inr (.inl (13, [.ref N, .int (i1_1 + 1), .int (i1_2 + 1)]))) (pc1 := 22) rfl (by omega) (by omega) g86 rfl rfl rfl rfl ?_
          have g88 : (va_up (va_up (va_up (va_up (va_up G x0 (.inr (.inl (13, [.ref r1_0, .int i1_1, .int (i1_2 + 1)])))) N (.inl (4, (n77, .inr (.inr (.inr (.inr (fun _ => none)))))))) x0 (.inr (.inl (13, [.ref N, .int i1_1, .int (i1_2 + 1)])))) N (.inl (4, (n77, .inr (.inr (.inr (.inr (va_up (fun _ => none) i1_1.toNatClampNeg (some y1))))))))) x0 (.inr (.inl (13, [.ref N, .int (i1_1 + 1), .int (i1_2 + 1)])))) N = .inl (4, (n77, .inr (.inr (.inr (.inr (va_up (fun _ => none) i1_1.toNatClampNeg (some y1))))))) := (va_ne (ne_ao g87 g86)).trans g87
          have g89 : (va_up (va_up (va_up (va_up (va_up G x0 (.inr (.inl (13, [.ref r1_0, .int i1_1, .int (i1_2 + 1)])))) N (.inl (4, (n77, .inr (.inr (.inr (.inr (fun _ => none)))))))) x0 (.inr (.inl (13, [.ref N, .int i1_1, .int (i1_2 + 1)])))) N (.inl (4, (n77, .inr (.inr (.inr (.inr (va_up (fun _ => none) i1_1.toNatClampNeg (some y1))))))))) x0 (.inr (.inl (13, [.ref N, .int (i1_1 + 1), .int (i1_2 + 1)])))) x0 = .inr (.inl (13, [.ref N, .int (i1_1 + 1), .int (i1_2 + 1)])) := up_eq
          refine w_vret (pc1 := 23) rfl rfl rfl ?_
          refine w_mv (pc1 := 24) (st1 := [.int 1]) rfl rfl rfl ?_
          refine sx_wp.stop rfl rfl rfl ?_
          exact c_acc (hP _ _ _ _ _ hh) (by omega) (by omega)
        ·
          replace hh := hh.2 (Int.not_lt.mp h75)
          refine w_ilt_F (pc1 := 5) rfl (by decide) rfl (show (i1_1 + 1).toInt ≤ 10 from (Int.not_lt.mp h75)) ?_
          refine w_mv (pc1 := 6) (st1 := [.int 10]) rfl rfl rfl ?_
          refine w_mv (pc1 := 10) (st1 := [.int 10]) rfl rfl rfl ?_
          refine w_iret (pc1 := 52) rfl rfl rfl rfl ?_
          obtain ⟨q90a, hh⟩ := hh
          refine cw_newq (n := 10) (pc1 := 55) rfl rfl (by decide) (by decide) (by decide) ?_
          have g91 : (va_up (va_up G x0 (.inr (.inl (13, [.ref r1_0, .int i1_1, .int (i1_2 + 1)])))) N (.inl (4, (10, .inr (.inr (.inr (.inr (fun _ => none)))))))) x0 = .inr (.inl (13, [.ref r1_0, .int i1_1, .int (i1_2 + 1)])) := (va_ne (by omega)).trans g2
          have g92 : (va_up (va_up G x0 (.inr (.inl (13, [.ref r1_0, .int i1_1, .int (i1_2 + 1)])))) N (.inl (4, (10, .inr (.inr (.inr (.inr (fun _ => none)))))))) r1_0 = .inl (4, (n3, .inr (.inr (.inr (.inr f3))))) := (va_ne (by omega)).trans g3
          have g93 : (va_up (va_up G x0 (.inr (.inl (13, [.ref r1_0, .int i1_1, .int (i1_2 + 1)])))) N (.inl (4, (10, .inr (.inr (.inr (.inr (fun _ => none)))))))) N = .inl (4, (10, .inr (.inr (.inr (.inr (fun _ => none)))))) := up_eq
          refine w_mv (pc1 := 56) (st1 := [.ref N, .ref x0, .ref N]) rfl rfl rfl ?_
          refine cw_pf (c1 := .inr (.inl (13, [.ref N, .int i1_1, .int (i1_2 + 1)]))) (pc1 := 59) rfl (by omega) (by omega) g91 rfl rfl rfl rfl ?_
          have g94 : (va_up (va_up (va_up G x0 (.inr (.inl (13, [.ref r1_0, .int i1_1, .int (i1_2 + 1)])))) N (.inl (4, (10, .inr (.inr (.inr (.inr (fun _ => none)))))))) x0 (.inr (.inl (13, [.ref N, .int i1_1, .int (i1_2 + 1)])))) r1_0 = .inl (4, (n3, .inr (.inr (.inr (.inr f3))))) := (va_ne (ne_ao g92 g91)).trans g92
          have g95 : (va_up (va_up (va_up G x0 (.inr (.inl (13, [.ref r1_0, .int i1_1, .int (i1_2 + 1)])))) N (.inl (4, (10, .inr (.inr (.inr (.inr (fun _ => none)))))))) x0 (.inr (.inl (13, [.ref N, .int i1_1, .int (i1_2 + 1)])))) N = .inl (4, (10, .inr (.inr (.inr (.inr (fun _ => none)))))) := (va_ne (ne_ao g93 g91)).trans g93
          have g96 : (va_up (va_up (va_up G x0 (.inr (.inl (13, [.ref r1_0, .int i1_1, .int (i1_2 + 1)])))) N (.inl (4, (10, .inr (.inr (.inr (.inr (fun _ => none)))))))) x0 (.inr (.inl (13, [.ref N, .int i1_1, .int (i1_2 + 1)])))) x0 = .inr (.inl (13, [.ref N, .int i1_1, .int (i1_2 + 1)])) := up_eq
          refine w_aret (pc1 := 10) rfl rfl rfl rfl ?_
          refine w_aret (pc1 := 10) rfl rfl rfl rfl ?_
          refine w_mv (pc1 := 11) (lv1 := [(2, .ref N), (0, .ref x0), (1, .ref y1), (3, .int i1_1)]) (st1 := []) rfl rfl rfl ?_
          refine w_mv (pc1 := 12) (st1 := [.ref N]) rfl rfl rfl ?_
          refine w_mv (pc1 := 13) (st1 := [.int i1_1, .ref N]) rfl rfl rfl ?_
          refine w_mv (pc1 := 14) (st1 := [.ref y1, .int i1_1, .ref N]) rfl rfl rfl ?_
          obtain ⟨q97a, q97b, hh⟩ := hh
          obtain ⟨u98a, u98b, c98, w98, u98c, u98d, hh⟩ := hh
          refine cw_as (pc1 := 15) rfl (by omega) (by omega) g95 (by omega) (by omega) u98c u98d q97a q97b rfl ?_
          have g99 : (va_up (va_up (va_up (va_up G x0 (.inr (.inl (13, [.ref r1_0, .int i1_1, .int (i1_2 + 1)])))) N (.inl (4, (10, .inr (.inr (.inr (.inr (fun _ => none)))))))) x0 (.inr (.inl (13, [.ref N, .int i1_1, .int (i1_2 + 1)])))) N (.inl (4, (10, .inr (.inr (.inr (.inr (va_up (fun _ => none) i1_1.toNatClampNeg (some y1))))))))) x0 = .inr (.inl (13, [.ref N, .int i1_1, .int (i1_2 + 1)])) := (va_ne (ne_oa g96 g95)).trans g96
          have g100 : (va_up (va_up (va_up (va_up G x0 (.inr (.inl (13, [.ref r1_0, .int i1_1, .int (i1_2 + 1)])))) N (.inl (4, (10, .inr (.inr (.inr (.inr (fun _ => none)))))))) x0 (.inr (.inl (13, [.ref N, .int i1_1, .int (i1_2 + 1)])))) N (.inl (4, (10, .inr (.inr (.inr (.inr (va_up (fun _ => none) i1_1.toNatClampNeg (some y1))))))))) N = .inl (4, (10, .inr (.inr (.inr (.inr (va_up (fun _ => none) i1_1.toNatClampNeg (some y1))))))) := up_eq
          refine w_mv (pc1 := 16) (st1 := [.ref x0]) rfl rfl rfl ?_
          refine w_mv (pc1 := 17) (st1 := [.int i1_1, .ref x0]) rfl rfl rfl ?_
          refine w_mv (pc1 := 18) (st1 := [.int 1, .int i1_1, .ref x0]) rfl rfl rfl ?_
          refine w_mv (pc1 := 19) (st1 := [.int (i1_1 + 1), .ref x0]) rfl rfl rfl ?_
          refine cw_pf (c1 := .inr (.inl (13, [.ref N, .int (i1_1 + 1), .int (i1_2 + 1)]))) (pc1 := 22) rfl (by omega) (by omega) g99 rfl rfl rfl rfl ?_
          have g101 : (va_up (va_up (va_up (va_up (va_up G x0 (.inr (.inl (13, [.ref r1_0, .int i1_1, .int (i1_2 + 1)])))) N (.inl (4, (10, .inr (.inr (.inr (.inr (fun _ => none)))))))) x0 (.inr (.inl (13, [.ref N, .int i1_1, .int (i1_2 + 1)])))) N (.inl (4, (10, .inr (.inr (.inr (.inr (va_up (fun _ => none) i1_1.toNatClampNeg (some y1))))))))) x0 (.inr (.inl (13, [.ref N, .int (i1_1 + 1), .int (i1_2 + 1)])))) N = .inl (4, (10, .inr (.inr (.inr (.inr (va_up (fun _ => none) i1_1.toNatClampNeg (some y1))))))) := (va_ne (ne_ao g100 g99)).trans g100
          have g102 : (va_up (va_up (va_up (va_up (va_up G x0 (.inr (.inl (13, [.ref r1_0, .int i1_1, .int (i1_2 + 1)])))) N (.inl (4, (10, .inr (.inr (.inr (.inr (fun _ => none)))))))) x0 (.inr (.inl (13, [.ref N, .int i1_1, .int (i1_2 + 1)])))) N (.inl (4, (10, .inr (.inr (.inr (.inr (va_up (fun _ => none) i1_1.toNatClampNeg (some y1))))))))) x0 (.inr (.inl (13, [.ref N, .int (i1_1 + 1), .int (i1_2 + 1)])))) x0 = .inr (.inl (13, [.ref N, .int (i1_1 + 1), .int (i1_2 + 1)])) := up_eq
          refine w_vret (pc1 := 23) rfl rfl rfl ?_
          refine w_mv (pc1 := 24) (st1 := [.int 1]) rfl rfl rfl ?_
          refine sx_wp.stop rfl rfl rfl ?_
          exact c_acc (hP _ _ _ _ _ hh) (by omega) (by omega)
      ·
        replace hh := hh.2 h74
        refine cw_acE_F (pc1 := 20) rfl (by decide) rfl (op_r (by omega)) (op_r (by omega)) (o_ne h74) ?_
        refine w_mv (pc1 := 21) (st1 := [.int (Int32.ofNat n3)]) rfl rfl rfl ?_
        refine w_mv (pc1 := 22) (st1 := [.int (i1_1 + 1), .int (Int32.ofNat n3)]) rfl rfl rfl ?_
        refine w_mv (pc1 := 23) (st1 := [.int (Int32.ofNat n3), .int (i1_1 + 1), .int (Int32.ofNat n3)]) rfl rfl rfl ?_
        refine w_mv (pc1 := 24) (st1 := [.int (i1_1 + 1 - Int32.ofNat n3), .int (Int32.ofNat n3)]) rfl rfl rfl ?_
        refine w_mv (pc1 := 25) (st1 := [.int (Int32.ofNat n3), .int (i1_1 + 1 - Int32.ofNat n3), .int (Int32.ofNat n3)]) rfl rfl rfl ?_
        refine w_mv (pc1 := 26) (st1 := [.int 1, .int (Int32.ofNat n3), .int (i1_1 + 1 - Int32.ofNat n3), .int (Int32.ofNat n3)]) rfl rfl rfl ?_
        refine w_mv (pc1 := 27) (st1 := [.int (c_shr (Int32.ofNat n3) 1), .int (i1_1 + 1 - Int32.ofNat n3), .int (Int32.ofNat n3)]) rfl rfl rfl ?_
        refine w_call (M' := sM_170) (vals := [.int (Int32.ofNat n3), .int (i1_1 + 1 - Int32.ofNat n3), .int (c_shr (Int32.ofNat n3) 1)]) (rest := []) (lv' := [(0, .int (Int32.ofNat n3)), (1, .int (i1_1 + 1 - Int32.ofNat n3)), (2, .int (c_shr (Int32.ofNat n3) 1))]) rfl rfl rfl rfl rfl rfl rfl rfl rfl rfl ?_
        refine w_mv (pc1 := 1) (st1 := [.int (Int32.ofNat n3)]) rfl rfl rfl ?_
        refine w_mv (pc1 := 2) (st1 := [.int (i1_1 + 1 - Int32.ofNat n3), .int (Int32.ofNat n3)]) rfl rfl rfl ?_
        refine w_mv (pc1 := 3) (st1 := [.int (c_shr (Int32.ofNat n3) 1), .int (i1_1 + 1 - Int32.ofNat n3), .int (Int32.ofNat n3)]) rfl rfl rfl ?_
        refine w_call (M' := sM_171) (vals := [.int (i1_1 + 1 - Int32.ofNat n3), .int (c_shr (Int32.ofNat n3) 1)]) (rest := [.int (Int32.ofNat n3)]) (lv' := [(0, .int (i1_1 + 1 - Int32.ofNat n3)), (1, .int (c_shr (Int32.ofNat n3) 1))]) rfl rfl rfl rfl rfl rfl rfl rfl rfl rfl ?_
        refine w_mv (pc1 := 1) (st1 := [.int (i1_1 + 1 - Int32.ofNat n3)]) rfl rfl rfl ?_
        refine w_mv (pc1 := 2) (st1 := [.int (c_shr (Int32.ofNat n3) 1), .int (i1_1 + 1 - Int32.ofNat n3)]) rfl rfl rfl ?_
        by_cases h103 : (i1_1 + 1 - Int32.ofNat n3).toInt < (c_shr (Int32.ofNat n3) 1).toInt
        ·
          replace hh := hh.1 h103
          refine w_ilt_T (pc1 := 9) rfl rfl (show (i1_1 + 1 - Int32.ofNat n3).toInt < (c_shr (Int32.ofNat n3) 1).toInt from h103) ?_
          refine w_mv (pc1 := 10) (st1 := [.int (c_shr (Int32.ofNat n3) 1)]) rfl rfl rfl ?_
          refine w_iret (pc1 := 6) rfl rfl rfl rfl ?_
          refine w_mv (pc1 := 7) (st1 := [.int (Int32.ofNat n3 + (c_shr (Int32.ofNat n3) 1))]) rfl rfl rfl ?_
          refine w_mv (pc1 := 8) (lv1 := [(3, .int (Int32.ofNat n3 + (c_shr (Int32.ofNat n3) 1))), (0, .int (Int32.ofNat n3)), (1, .int (i1_1 + 1 - Int32.ofNat n3)), (2, .int (c_shr (Int32.ofNat n3) 1))]) (st1 := []) rfl rfl rfl ?_
          refine w_mv (pc1 := 9) (st1 := [.int 0]) rfl rfl rfl ?_
          refine w_mv (pc1 := 10) (st1 := [.int (Int32.ofNat n3 + (c_shr (Int32.ofNat n3) 1)), .int 0]) rfl rfl rfl ?_
          by_cases h104 : (Int32.ofNat n3 + (c_shr (Int32.ofNat n3) 1)).toInt ≤ 0
          ·
            replace hh := hh.1 h104
            refine w_ige_T (pc1 := 21) rfl rfl (show (Int32.ofNat n3 + (c_shr (Int32.ofNat n3) 1)).toInt ≤ 0 from h104) ?_
            refine w_mv (pc1 := 22) (st1 := [.int (Int32.ofNat n3)]) rfl rfl rfl ?_
            refine w_mv (pc1 := 23) (st1 := [.int (i1_1 + 1 - Int32.ofNat n3), .int (Int32.ofNat n3)]) rfl rfl rfl ?_
            exact hh.elim
          ·
            replace hh := hh.2 (Int.not_le.mp h104)
            refine w_ige_F (pc1 := 13) rfl (by decide) rfl (show 0 < (Int32.ofNat n3 + (c_shr (Int32.ofNat n3) 1)).toInt from (Int.not_le.mp h104)) ?_
            refine w_mv (pc1 := 14) (st1 := [.int (Int32.ofNat n3 + (c_shr (Int32.ofNat n3) 1))]) rfl rfl rfl ?_
            refine w_mv (pc1 := 16) (st1 := [.int 2147483639, .int (Int32.ofNat n3 + (c_shr (Int32.ofNat n3) 1))]) rfl rfl rfl ?_
            by_cases h105 : 2147483639 < (Int32.ofNat n3 + (c_shr (Int32.ofNat n3) 1)).toInt
            ·
              replace hh := hh.1 h105
              refine w_igt_T (pc1 := 21) rfl rfl (show 2147483639 < (Int32.ofNat n3 + (c_shr (Int32.ofNat n3) 1)).toInt from h105) ?_
              refine w_mv (pc1 := 22) (st1 := [.int (Int32.ofNat n3)]) rfl rfl rfl ?_
              refine w_mv (pc1 := 23) (st1 := [.int (i1_1 + 1 - Int32.ofNat n3), .int (Int32.ofNat n3)]) rfl rfl rfl ?_
              exact hh.elim
            ·
              replace hh := hh.2 (Int.not_lt.mp h105)
              refine w_igt_F (pc1 := 19) rfl (by decide) rfl (show (Int32.ofNat n3 + (c_shr (Int32.ofNat n3) 1)).toInt ≤ 2147483639 from (Int.not_lt.mp h105)) ?_
              refine w_mv (pc1 := 20) (st1 := [.int (Int32.ofNat n3 + (c_shr (Int32.ofNat n3) 1))]) rfl rfl rfl ?_
              refine w_iret (pc1 := 30) rfl rfl rfl rfl ?_
              refine w_mv (pc1 := 31) (lv1 := [(3, .int (Int32.ofNat n3 + (c_shr (Int32.ofNat n3) 1))), (2, .int (Int32.ofNat n3)), (0, .ref x0), (1, .int (i1_1 + 1))]) (st1 := []) rfl rfl rfl ?_
              refine w_mv (pc1 := 32) (st1 := [.ref x0]) rfl rfl rfl ?_
              refine w_mv (pc1 := 33) (st1 := [.ref x0, .ref x0]) rfl rfl rfl ?_
              refine cw_gf (v := .ref r1_0) (pc1 := 36) rfl (by omega) (by omega) g2 rfl rfl ?_
              refine w_mv (pc1 := 37) (st1 := [.int (Int32.ofNat n3 + (c_shr (Int32.ofNat n3) 1)), .ref r1_0, .ref x0]) rfl rfl rfl ?_
              refine w_call (M' := sM_172) (vals := [.ref r1_0, .int (Int32.ofNat n3 + (c_shr (Int32.ofNat n3) 1))]) (rest := [.ref x0]) (lv' := [(0, .ref r1_0), (1, .int (Int32.ofNat n3 + (c_shr (Int32.ofNat n3) 1)))]) rfl rfl rfl rfl rfl rfl rfl rfl rfl rfl ?_
              refine w_mv (pc1 := 1) (st1 := [.ref r1_0]) rfl rfl rfl ?_
              refine w_mv (pc1 := 2) (st1 := [.int (Int32.ofNat n3 + (c_shr (Int32.ofNat n3) 1)), .ref r1_0]) rfl rfl rfl ?_
              refine w_mv (pc1 := 3) (st1 := [.ref r1_0, .int (Int32.ofNat n3 + (c_shr (Int32.ofNat n3) 1)), .ref r1_0]) rfl rfl rfl ?_
              obtain ⟨q106a, hh⟩ := hh
              obtain ⟨q107a, hh⟩ := hh
              refine cw_gc (pc1 := 6) rfl (by omega) (by omega) g3 q107a (by omega) (Nat.le_of_ble_eq_true rfl) rfl ?_
              refine w_call (M' := sM_173) (vals := [.ref r1_0, .int (Int32.ofNat n3 + (c_shr (Int32.ofNat n3) 1)), .ref 4]) (rest := []) (lv' := [(0, .ref r1_0), (1, .int (Int32.ofNat n3 + (c_shr (Int32.ofNat n3) 1))), (2, .ref 4)]) rfl rfl rfl rfl rfl rfl rfl rfl rfl rfl ?_
              refine w_mv (pc1 := 1) (st1 := [.ref 4]) rfl rfl rfl ?_
              obtain ⟨q108a, hh⟩ := hh
              refine cw_lc (pc1 := 6) rfl q108a (by omega) (Nat.le_of_ble_eq_true rfl) rfl ?_
              refine w_mv (pc1 := 7) (st1 := [.int (Int32.ofNat n3 + (c_shr (Int32.ofNat n3) 1))]) rfl rfl rfl ?_
              obtain ⟨q109a, hh⟩ := hh
              obtain ⟨n110, q110a, q110b, q110c, hh⟩ := hh
              refine cw_newq (n := n110) (pc1 := 10) rfl rfl (Int32.le_iff_toInt_le.mpr q110a) q110b q110c ?_
              have g111 : (va_up (va_up G x0 (.inr (.inl (13, [.ref r1_0, .int i1_1, .int (i1_2 + 1)])))) N (.inl (4, (n110, .inr (.inr (.inr (.inr (fun _ => none)))))))) x0 = .inr (.inl (13, [.ref r1_0, .int i1_1, .int (i1_2 + 1)])) := (va_ne (by omega)).trans g2
              have g112 : (va_up (va_up G x0 (.inr (.inl (13, [.ref r1_0, .int i1_1, .int (i1_2 + 1)])))) N (.inl (4, (n110, .inr (.inr (.inr (.inr (fun _ => none)))))))) r1_0 = .inl (4, (n3, .inr (.inr (.inr (.inr f3))))) := (va_ne (by omega)).trans g3
              have g113 : (va_up (va_up G x0 (.inr (.inl (13, [.ref r1_0, .int i1_1, .int (i1_2 + 1)])))) N (.inl (4, (n110, .inr (.inr (.inr (.inr (fun _ => none)))))))) N = .inl (4, (n110, .inr (.inr (.inr (.inr (fun _ => none)))))) := up_eq
              refine w_mv (pc1 := 24) (st1 := [.ref N]) rfl rfl rfl ?_
              refine w_mv (pc1 := 25) (lv1 := [(3, .ref N), (0, .ref r1_0), (1, .int (Int32.ofNat n3 + (c_shr (Int32.ofNat n3) 1))), (2, .ref 4)]) (st1 := []) rfl rfl rfl ?_
              refine w_mv (pc1 := 26) (st1 := [.ref r1_0]) rfl rfl rfl ?_
              refine w_mv (pc1 := 27) (st1 := [.int 0, .ref r1_0]) rfl rfl rfl ?_
              refine w_mv (pc1 := 28) (st1 := [.ref N, .int 0, .ref r1_0]) rfl rfl rfl ?_
              refine w_mv (pc1 := 29) (st1 := [.int 0, .ref N, .int 0, .ref r1_0]) rfl rfl rfl ?_
              refine w_mv (pc1 := 30) (st1 := [.ref r1_0, .int 0, .ref N, .int 0, .ref r1_0]) rfl rfl rfl ?_
              refine cw_alen (pc1 := 31) rfl (by omega) g112 rfl ?_
              refine w_mv (pc1 := 32) (st1 := [.int (Int32.ofNat n3 + (c_shr (Int32.ofNat n3) 1)), .int (Int32.ofNat n3), .int 0, .ref N, .int 0, .ref r1_0]) rfl rfl rfl ?_
              refine w_call (M' := sM_174) (vals := [.int (Int32.ofNat n3), .int (Int32.ofNat n3 + (c_shr (Int32.ofNat n3) 1))]) (rest := [.int 0, .ref N, .int 0, .ref r1_0]) (lv' := [(0, .int (Int32.ofNat n3)), (1, .int (Int32.ofNat n3 + (c_shr (Int32.ofNat n3) 1)))]) rfl rfl rfl rfl rfl rfl rfl rfl rfl rfl ?_
              refine w_mv (pc1 := 1) (st1 := [.int (Int32.ofNat n3)]) rfl rfl rfl ?_
              refine w_mv (pc1 := 2) (st1 := [.int (Int32.ofNat n3 + (c_shr (Int32.ofNat n3) 1)), .int (Int32.ofNat n3)]) rfl rfl rfl ?_
              by_cases h114 : (Int32.ofNat n3 + (c_shr (Int32.ofNat n3) 1)).toInt < (Int32.ofNat n3).toInt
              ·
                replace hh := hh.1 h114
                refine w_igt_T (pc1 := 9) rfl rfl (show (Int32.ofNat n3 + (c_shr (Int32.ofNat n3) 1)).toInt < (Int32.ofNat n3).toInt from h114) ?_
                refine w_mv (pc1 := 10) (st1 := [.int (Int32.ofNat n3 + (c_shr (Int32.ofNat n3) 1))]) rfl rfl rfl ?_
                refine w_iret (pc1 := 35) rfl rfl rfl rfl ?_
                obtain ⟨q115a, hh⟩ := hh
                refine cw_cpq (sp := (0 : Int32)) (dp := (0 : Int32)) (n := (Int32.ofNat n3 + (c_shr (Int32.ofNat n3) 1))) (pc1 := 38) rfl (by omega) (by omega) g112 (by omega) (by omega) g113 (by omega) (Nat.le_of_ble_eq_true rfl) q115a rfl ?_
                have g116 : (va_up (va_up (va_up G x0 (.inr (.inl (13, [.ref r1_0, .int i1_1, .int (i1_2 + 1)])))) N (.inl (4, (n110, .inr (.inr (.inr (.inr (fun _ => none)))))))) N (.inl (4, (n110, .inr (.inr (.inr (.inr (va_cpy f3 (fun _ => none) (0 : Int32).toNatClampNeg (0 : Int32).toNatClampNeg (Int32.ofNat n3 + (c_shr (Int32.ofNat n3) 1)).toNatClampNeg)))))))) x0 = .inr (.inl (13, [.ref r1_0, .int i1_1, .int (i1_2 + 1)])) := (va_ne (ne_oa g111 g113)).trans g111
                have g117 : (va_up (va_up (va_up G x0 (.inr (.inl (13, [.ref r1_0, .int i1_1, .int (i1_2 + 1)])))) N (.inl (4, (n110, .inr (.inr (.inr (.inr (fun _ => none)))))))) N (.inl (4, (n110, .inr (.inr (.inr (.inr (va_cpy f3 (fun _ => none) (0 : Int32).toNatClampNeg (0 : Int32).toNatClampNeg (Int32.ofNat n3 + (c_shr (Int32.ofNat n3) 1)).toNatClampNeg)))))))) N = .inl (4, (n110, .inr (.inr (.inr (.inr (va_cpy f3 (fun _ => none) (0 : Int32).toNatClampNeg (0 : Int32).toNatClampNeg (Int32.ofNat n3 + (c_shr (Int32.ofNat n3) 1)).toNatClampNeg)))))) := up_eq
                refine w_mv (pc1 := 39) (st1 := [.ref N]) rfl rfl rfl ?_
                refine w_aret (pc1 := 9) rfl rfl rfl rfl ?_
                refine w_aret (pc1 := 40) rfl rfl rfl rfl ?_
                refine w_mv (pc1 := 41) (st1 := [.ref N, .ref x0, .ref N]) rfl rfl rfl ?_
                refine cw_pf (c1 := .inr (.inl (13, [.ref N, .int i1_1, .int (i1_2 + 1)]))) (pc1 := 44) rfl (by omega) (by omega) g116 rfl rfl rfl rfl ?_
                have g118 : (va_up (va_up (va_up (va_up G x0 (.inr (.inl (13, [.ref r1_0, .int i1_1, .int (i1_2 + 1)])))) N (.inl (4, (n110, .inr (.inr (.inr (.inr (fun _ => none)))))))) N (.inl (4, (n110, .inr (.inr (.inr (.inr (va_cpy f3 (fun _ => none) (0 : Int32).toNatClampNeg (0 : Int32).toNatClampNeg (Int32.ofNat n3 + (c_shr (Int32.ofNat n3) 1)).toNatClampNeg)))))))) x0 (.inr (.inl (13, [.ref N, .int i1_1, .int (i1_2 + 1)])))) N = .inl (4, (n110, .inr (.inr (.inr (.inr (va_cpy f3 (fun _ => none) (0 : Int32).toNatClampNeg (0 : Int32).toNatClampNeg (Int32.ofNat n3 + (c_shr (Int32.ofNat n3) 1)).toNatClampNeg)))))) := (va_ne (ne_ao g117 g116)).trans g117
                have g119 : (va_up (va_up (va_up (va_up G x0 (.inr (.inl (13, [.ref r1_0, .int i1_1, .int (i1_2 + 1)])))) N (.inl (4, (n110, .inr (.inr (.inr (.inr (fun _ => none)))))))) N (.inl (4, (n110, .inr (.inr (.inr (.inr (va_cpy f3 (fun _ => none) (0 : Int32).toNatClampNeg (0 : Int32).toNatClampNeg (Int32.ofNat n3 + (c_shr (Int32.ofNat n3) 1)).toNatClampNeg)))))))) x0 (.inr (.inl (13, [.ref N, .int i1_1, .int (i1_2 + 1)])))) x0 = .inr (.inl (13, [.ref N, .int i1_1, .int (i1_2 + 1)])) := up_eq
                refine w_aret (pc1 := 10) rfl rfl rfl rfl ?_
                refine w_aret (pc1 := 10) rfl rfl rfl rfl ?_
                refine w_mv (pc1 := 11) (lv1 := [(2, .ref N), (0, .ref x0), (1, .ref y1), (3, .int i1_1)]) (st1 := []) rfl rfl rfl ?_
                refine w_mv (pc1 := 12) (st1 := [.ref N]) rfl rfl rfl ?_
                refine w_mv (pc1 := 13) (st1 := [.int i1_1, .ref N]) rfl rfl rfl ?_
                refine w_mv (pc1 := 14) (st1 := [.ref y1, .int i1_1, .ref N]) rfl rfl rfl ?_
                obtain ⟨q120a, q120b, hh⟩ := hh
                obtain ⟨u121a, u121b, c121, w121, u121c, u121d, hh⟩ := hh
                refine cw_as (pc1 := 15) rfl (by omega) (by omega) g118 (by omega) (by omega) u121c u121d q120a q120b rfl ?_
                have g122 : (va_up (va_up (va_up (va_up (va_up G x0 (.inr (.inl (13, [.ref r1_0, .int i1_1, .int (i1_2 + 1)])))) N (.inl (4, (n110, .inr (.inr (.inr (.inr (fun _ => none)))))))) N (.inl (4, (n110, .inr (.inr (.inr (.inr (va_cpy f3 (fun _ => none) (0 : Int32).toNatClampNeg (0 : Int32).toNatClampNeg (Int32.ofNat n3 + (c_shr (Int32.ofNat n3) 1)).toNatClampNeg)))))))) x0 (.inr (.inl (13, [.ref N, .int i1_1, .int (i1_2 + 1)])))) N (.inl (4, (n110, .inr (.inr (.inr (.inr (va_up (va_cpy f3 (fun _ => none) (0 : Int32).toNatClampNeg (0 : Int32).toNatClampNeg (Int32.ofNat n3 + (c_shr (Int32.ofNat n3) 1)).toNatClampNeg) i1_1.toNatClampNeg (some y1))))))))) x0 = .inr (.inl (13, [.ref N, .int i1_1, .int (i1_2 + 1)])) := (va_ne (ne_oa g119 g118)).trans g119
                have g123 : (va_up (va_up (va_up (va_up (va_up G x0 (.inr (.inl (13, [.ref r1_0, .int i1_1, .int (i1_2 + 1)])))) N (.inl (4, (n110, .inr (.inr (.inr (.inr (fun _ => none)))))))) N (.inl (4, (n110, .inr (.inr (.inr (.inr (va_cpy f3 (fun _ => none) (0 : Int32).toNatClampNeg (0 : Int32).toNatClampNeg (Int32.ofNat n3 + (c_shr (Int32.ofNat n3) 1)).toNatClampNeg)))))))) x0 (.inr (.inl (13, [.ref N, .int i1_1, .int (i1_2 + 1)])))) N (.inl (4, (n110, .inr (.inr (.inr (.inr (va_up (va_cpy f3 (fun _ => none) (0 : Int32).toNatClampNeg (0 : Int32).toNatClampNeg (Int32.ofNat n3 + (c_shr (Int32.ofNat n3) 1)).toNatClampNeg) i1_1.toNatClampNeg (some y1))))))))) N = .inl (4, (n110, .inr (.inr (.inr (.inr (va_up (va_cpy f3 (fun _ => none) (0 : Int32).toNatClampNeg (0 : Int32).toNatClampNeg (Int32.ofNat n3 + (c_shr (Int32.ofNat n3) 1)).toNatClampNeg) i1_1.toNatClampNeg (some y1))))))) := up_eq
                refine w_mv (pc1 := 16) (st1 := [.ref x0]) rfl rfl rfl ?_
                refine w_mv (pc1 := 17) (st1 := [.int i1_1, .ref x0]) rfl rfl rfl ?_
                refine w_mv (pc1 := 18) (st1 := [.int 1, .int i1_1, .ref x0]) rfl rfl rfl ?_
                refine w_mv (pc1 := 19) (st1 := [.int (i1_1 + 1), .ref x0]) rfl rfl rfl ?_
                refine cw_pf (c1 := .inr (.inl (13, [.ref N, .int (i1_1 + 1), .int (i1_2 + 1)]))) (pc1 := 22) rfl (by omega) (by omega) g122 rfl rfl rfl rfl ?_
                have g124 : (va_up (va_up (va_up (va_up (va_up (va_up G x0 (.inr (.inl (13, [.ref r1_0, .int i1_1, .int (i1_2 + 1)])))) N (.inl (4, (n110, .inr (.inr (.inr (.inr (fun _ => none)))))))) N (.inl (4, (n110, .inr (.inr (.inr (.inr (va_cpy f3 (fun _ => none) (0 : Int32).toNatClampNeg (0 : Int32).toNatClampNeg (Int32.ofNat n3 + (c_shr (Int32.ofNat n3) 1)).toNatClampNeg)))))))) x0 (.inr (.inl (13, [.ref N, .int i1_1, .int (i1_2 + 1)])))) N (.inl (4, (n110, .inr (.inr (.inr (.inr (va_up (va_cpy f3 (fun _ => none) (0 : Int32).toNatClampNeg (0 : Int32).toNatClampNeg (Int32.ofNat n3 + (c_shr (Int32.ofNat n3) 1)).toNatClampNeg) i1_1.toNatClampNeg (some y1))))))))) x0 (.inr (.inl (13, [.ref N, .int (i1_1 + 1), .int (i1_2 + 1)])))) N = .inl (4, (n110, .inr (.inr (.inr (.inr (va_up (va_cpy f3 (fun _ => none) (0 : Int32).toNatClampNeg (0 : Int32).toNatClampNeg (Int32.ofNat n3 + (c_shr (Int32.ofNat n3) 1)).toNatClampNeg) i1_1.toNatClampNeg (some y1))))))) := (va_ne (ne_ao g123 g122)).trans g123
                have g125 : (va_up (va_up (va_up (va_up (va_up (va_up G x0 (.inr (.inl (13, [.ref r1_0, .int i1_1, .int (i1_2 + 1)])))) N (.inl (4, (n110, .inr (.inr (.inr (.inr (fun _ => none)))))))) N (.inl (4, (n110, .inr (.inr (.inr (.inr (va_cpy f3 (fun _ => none) (0 : Int32).toNatClampNeg (0 : Int32).toNatClampNeg (Int32.ofNat n3 + (c_shr (Int32.ofNat n3) 1)).toNatClampNeg)))))))) x0 (.inr (.inl (13, [.ref N, .int i1_1, .int (i1_2 + 1)])))) N (.inl (4, (n110, .inr (.inr (.inr (.inr (va_up (va_cpy f3 (fun _ => none) (0 : Int32).toNatClampNeg (0 : Int32).toNatClampNeg (Int32.ofNat n3 + (c_shr (Int32.ofNat n3) 1)).toNatClampNeg) i1_1.toNatClampNeg (some y1))))))))) x0 (.inr (.inl (13, [.ref N, .int (i1_1 + 1), .int (i1_2 + 1)])))) x0 = .inr (.inl (13, [.ref N, .int (i1_1 + 1), .int (i1_2 + 1)])) := up_eq
                refine w_vret (pc1 := 23) rfl rfl rfl ?_
                refine w_mv (pc1 := 24) (st1 := [.int 1]) rfl rfl rfl ?_
                refine sx_wp.stop rfl rfl rfl ?_
                exact c_acc (hP _ _ _ _ _ hh) (by omega) (by omega)
              ·
                replace hh := hh.2 (Int.not_lt.mp h114)
                refine w_igt_F (pc1 := 5) rfl (by decide) rfl (show (Int32.ofNat n3).toInt ≤ (Int32.ofNat n3 + (c_shr (Int32.ofNat n3) 1)).toInt from (Int.not_lt.mp h114)) ?_
                refine w_mv (pc1 := 6) (st1 := [.int (Int32.ofNat n3)]) rfl rfl rfl ?_
                refine w_mv (pc1 := 10) (st1 := [.int (Int32.ofNat n3)]) rfl rfl rfl ?_
                refine w_iret (pc1 := 35) rfl rfl rfl rfl ?_
                obtain ⟨q126a, hh⟩ := hh
                refine cw_cpq (sp := (0 : Int32)) (dp := (0 : Int32)) (n := (Int32.ofNat n3)) (pc1 := 38) rfl (by omega) (by omega) g112 (by omega) (by omega) g113 (by omega) (Nat.le_of_ble_eq_true rfl) q126a rfl ?_
                have g127 : (va_up (va_up (va_up G x0 (.inr (.inl (13, [.ref r1_0, .int i1_1, .int (i1_2 + 1)])))) N (.inl (4, (n110, .inr (.inr (.inr (.inr (fun _ => none)))))))) N (.inl (4, (n110, .inr (.inr (.inr (.inr (va_cpy f3 (fun _ => none) (0 : Int32).toNatClampNeg (0 : Int32).toNatClampNeg (Int32.ofNat n3).toNatClampNeg)))))))) x0 = .inr (.inl (13, [.ref r1_0, .int i1_1, .int (i1_2 + 1)])) := (va_ne (ne_oa g111 g113)).trans g111
                have g128 : (va_up (va_up (va_up G x0 (.inr (.inl (13, [.ref r1_0, .int i1_1, .int (i1_2 + 1)])))) N (.inl (4, (n110, .inr (.inr (.inr (.inr (fun _ => none)))))))) N (.inl (4, (n110, .inr (.inr (.inr (.inr (va_cpy f3 (fun _ => none) (0 : Int32).toNatClampNeg (0 : Int32).toNatClampNeg (Int32.ofNat n3).toNatClampNeg)))))))) N = .inl (4, (n110, .inr (.inr (.inr (.inr (va_cpy f3 (fun _ => none) (0 : Int32).toNatClampNeg (0 : Int32).toNatClampNeg (Int32.ofNat n3).toNatClampNeg)))))) := up_eq
                refine w_mv (pc1 := 39) (st1 := [.ref N]) rfl rfl rfl ?_
                refine w_aret (pc1 := 9) rfl rfl rfl rfl ?_
                refine w_aret (pc1 := 40) rfl rfl rfl rfl ?_
                refine w_mv (pc1 := 41) (st1 := [.ref N, .ref x0, .ref N]) rfl rfl rfl ?_
                refine cw_pf (c1 := .inr (.inl (13, [.ref N, .int i1_1, .int (i1_2 + 1)]))) (pc1 := 44) rfl (by omega) (by omega) g127 rfl rfl rfl rfl ?_
                have g129 : (va_up (va_up (va_up (va_up G x0 (.inr (.inl (13, [.ref r1_0, .int i1_1, .int (i1_2 + 1)])))) N (.inl (4, (n110, .inr (.inr (.inr (.inr (fun _ => none)))))))) N (.inl (4, (n110, .inr (.inr (.inr (.inr (va_cpy f3 (fun _ => none) (0 : Int32).toNatClampNeg (0 : Int32).toNatClampNeg (Int32.ofNat n3).toNatClampNeg)))))))) x0 (.inr (.inl (13, [.ref N, .int i1_1, .int (i1_2 + 1)])))) N = .inl (4, (n110, .inr (.inr (.inr (.inr (va_cpy f3 (fun _ => none) (0 : Int32).toNatClampNeg (0 : Int32).toNatClampNeg (Int32.ofNat n3).toNatClampNeg)))))) := (va_ne (ne_ao g128 g127)).trans g128
                have g130 : (va_up (va_up (va_up (va_up G x0 (.inr (.inl (13, [.ref r1_0, .int i1_1, .int (i1_2 + 1)])))) N (.inl (4, (n110, .inr (.inr (.inr (.inr (fun _ => none)))))))) N (.inl (4, (n110, .inr (.inr (.inr (.inr (va_cpy f3 (fun _ => none) (0 : Int32).toNatClampNeg (0 : Int32).toNatClampNeg (Int32.ofNat n3).toNatClampNeg)))))))) x0 (.inr (.inl (13, [.ref N, .int i1_1, .int (i1_2 + 1)])))) x0 = .inr (.inl (13, [.ref N, .int i1_1, .int (i1_2 + 1)])) := up_eq
                refine w_aret (pc1 := 10) rfl rfl rfl rfl ?_
                refine w_aret (pc1 := 10) rfl rfl rfl rfl ?_
                refine w_mv (pc1 := 11) (lv1 := [(2, .ref N), (0, .ref x0), (1, .ref y1), (3, .int i1_1)]) (st1 := []) rfl rfl rfl ?_
                refine w_mv (pc1 := 12) (st1 := [.ref N]) rfl rfl rfl ?_
                refine w_mv (pc1 := 13) (st1 := [.int i1_1, .ref N]) rfl rfl rfl ?_
                refine w_mv (pc1 := 14) (st1 := [.ref y1, .int i1_1, .ref N]) rfl rfl rfl ?_
                obtain ⟨q131a, q131b, hh⟩ := hh
                obtain ⟨u132a, u132b, c132, w132, u132c, u132d, hh⟩ := hh
                refine cw_as (pc1 := 15) rfl (by omega) (by omega) g129 (by omega) (by omega) u132c u132d q131a q131b rfl ?_
                have g133 : (va_up (va_up (va_up (va_up (va_up G x0 (.inr (.inl (13, [.ref r1_0, .int i1_1, .int (i1_2 + 1)])))) N (.inl (4, (n110, .inr (.inr (.inr (.inr (fun _ => none)))))))) N (.inl (4, (n110, .inr (.inr (.inr (.inr (va_cpy f3 (fun _ => none) (0 : Int32).toNatClampNeg (0 : Int32).toNatClampNeg (Int32.ofNat n3).toNatClampNeg)))))))) x0 (.inr (.inl (13, [.ref N, .int i1_1, .int (i1_2 + 1)])))) N (.inl (4, (n110, .inr (.inr (.inr (.inr (va_up (va_cpy f3 (fun _ => none) (0 : Int32).toNatClampNeg (0 : Int32).toNatClampNeg (Int32.ofNat n3).toNatClampNeg) i1_1.toNatClampNeg (some y1))))))))) x0 = .inr (.inl (13, [.ref N, .int i1_1, .int (i1_2 + 1)])) := (va_ne (ne_oa g130 g129)).trans g130
                have g134 : (va_up (va_up (va_up (va_up (va_up G x0 (.inr (.inl (13, [.ref r1_0, .int i1_1, .int (i1_2 + 1)])))) N (.inl (4, (n110, .inr (.inr (.inr (.inr (fun _ => none)))))))) N (.inl (4, (n110, .inr (.inr (.inr (.inr (va_cpy f3 (fun _ => none) (0 : Int32).toNatClampNeg (0 : Int32).toNatClampNeg (Int32.ofNat n3).toNatClampNeg)))))))) x0 (.inr (.inl (13, [.ref N, .int i1_1, .int (i1_2 + 1)])))) N (.inl (4, (n110, .inr (.inr (.inr (.inr (va_up (va_cpy f3 (fun _ => none) (0 : Int32).toNatClampNeg (0 : Int32).toNatClampNeg (Int32.ofNat n3).toNatClampNeg) i1_1.toNatClampNeg (some y1))))))))) N = .inl (4, (n110, .inr (.inr (.inr (.inr (va_up (va_cpy f3 (fun _ => none) (0 : Int32).toNatClampNeg (0 : Int32).toNatClampNeg (Int32.ofNat n3).toNatClampNeg) i1_1.toNatClampNeg (some y1))))))) := up_eq
                refine w_mv (pc1 := 16) (st1 := [.ref x0]) rfl rfl rfl ?_
                refine w_mv (pc1 := 17) (st1 := [.int i1_1, .ref x0]) rfl rfl rfl ?_
                refine w_mv (pc1 := 18) (st1 := [.int 1, .int i1_1, .ref x0]) rfl rfl rfl ?_
                refine w_mv (pc1 := 19) (st1 := [.int (i1_1 + 1), .ref x0]) rfl rfl rfl ?_
                refine cw_pf (c1 := .inr (.inl (13, [.ref N, .int (i1_1 + 1), .int (i1_2 + 1)]))) (pc1 := 22) rfl (by omega) (by omega) g133 rfl rfl rfl rfl ?_
                have g135 : (va_up (va_up (va_up (va_up (va_up (va_up G x0 (.inr (.inl (13, [.ref r1_0, .int i1_1, .int (i1_2 + 1)])))) N (.inl (4, (n110, .inr (.inr (.inr (.inr (fun _ => none)))))))) N (.inl (4, (n110, .inr (.inr (.inr (.inr (va_cpy f3 (fun _ => none) (0 : Int32).toNatClampNeg (0 : Int32).toNatClampNeg (Int32.ofNat n3).toNatClampNeg)))))))) x0 (.inr (.inl (13, [.ref N, .int i1_1, .int (i1_2 + 1)])))) N (.inl (4, (n110, .inr (.inr (.inr (.inr (va_up (va_cpy f3 (fun _ => none) (0 : Int32).toNatClampNeg (0 : Int32).toNatClampNeg (Int32.ofNat n3).toNatClampNeg) i1_1.toNatClampNeg (some y1))))))))) x0 (.inr (.inl (13, [.ref N, .int (i1_1 + 1), .int (i1_2 + 1)])))) N = .inl (4, (n110, .inr (.inr (.inr (.inr (va_up (va_cpy f3 (fun _ => none) (0 : Int32).toNatClampNeg (0 : Int32).toNatClampNeg (Int32.ofNat n3).toNatClampNeg) i1_1.toNatClampNeg (some y1))))))) := (va_ne (ne_ao g134 g133)).trans g134
                have g136 : (va_up (va_up (va_up (va_up (va_up (va_up G x0 (.inr (.inl (13, [.ref r1_0, .int i1_1, .int (i1_2 + 1)])))) N (.inl (4, (n110, .inr (.inr (.inr (.inr (fun _ => none)))))))) N (.inl (4, (n110, .inr (.inr (.inr (.inr (va_cpy f3 (fun _ => none) (0 : Int32).toNatClampNeg (0 : Int32).toNatClampNeg (Int32.ofNat n3).toNatClampNeg)))))))) x0 (.inr (.inl (13, [.ref N, .int i1_1, .int (i1_2 + 1)])))) N (.inl (4, (n110, .inr (.inr (.inr (.inr (va_up (va_cpy f3 (fun _ => none) (0 : Int32).toNatClampNeg (0 : Int32).toNatClampNeg (Int32.ofNat n3).toNatClampNeg) i1_1.toNatClampNeg (some y1))))))))) x0 (.inr (.inl (13, [.ref N, .int (i1_1 + 1), .int (i1_2 + 1)])))) x0 = .inr (.inl (13, [.ref N, .int (i1_1 + 1), .int (i1_2 + 1)])) := up_eq
                refine w_vret (pc1 := 23) rfl rfl rfl ?_
                refine w_mv (pc1 := 24) (st1 := [.int 1]) rfl rfl rfl ?_
                refine sx_wp.stop rfl rfl rfl ?_
                exact c_acc (hP _ _ _ _ _ hh) (by omega) (by omega)
        ·
          replace hh := hh.2 (Int.not_lt.mp h103)
          refine w_ilt_F (pc1 := 5) rfl (by decide) rfl (show (c_shr (Int32.ofNat n3) 1).toInt ≤ (i1_1 + 1 - Int32.ofNat n3).toInt from (Int.not_lt.mp h103)) ?_
          refine w_mv (pc1 := 6) (st1 := [.int (i1_1 + 1 - Int32.ofNat n3)]) rfl rfl rfl ?_
          refine w_mv (pc1 := 10) (st1 := [.int (i1_1 + 1 - Int32.ofNat n3)]) rfl rfl rfl ?_
          refine w_iret (pc1 := 6) rfl rfl rfl rfl ?_
          refine w_mv (pc1 := 7) (st1 := [.int (Int32.ofNat n3 + (i1_1 + 1 - Int32.ofNat n3))]) rfl rfl rfl ?_
          refine w_mv (pc1 := 8) (lv1 := [(3, .int (Int32.ofNat n3 + (i1_1 + 1 - Int32.ofNat n3))), (0, .int (Int32.ofNat n3)), (1, .int (i1_1 + 1 - Int32.ofNat n3)), (2, .int (c_shr (Int32.ofNat n3) 1))]) (st1 := []) rfl rfl rfl ?_
          refine w_mv (pc1 := 9) (st1 := [.int 0]) rfl rfl rfl ?_
          refine w_mv (pc1 := 10) (st1 := [.int (Int32.ofNat n3 + (i1_1 + 1 - Int32.ofNat n3)), .int 0]) rfl rfl rfl ?_
          by_cases h137 : (Int32.ofNat n3 + (i1_1 + 1 - Int32.ofNat n3)).toInt ≤ 0
          ·
            replace hh := hh.1 h137
            refine w_ige_T (pc1 := 21) rfl rfl (show (Int32.ofNat n3 + (i1_1 + 1 - Int32.ofNat n3)).toInt ≤ 0 from h137) ?_
            refine w_mv (pc1 := 22) (st1 := [.int (Int32.ofNat n3)]) rfl rfl rfl ?_
            refine w_mv (pc1 := 23) (st1 := [.int (i1_1 + 1 - Int32.ofNat n3), .int (Int32.ofNat n3)]) rfl rfl rfl ?_
            exact hh.elim
          ·
            replace hh := hh.2 (Int.not_le.mp h137)
            refine w_ige_F (pc1 := 13) rfl (by decide) rfl (show 0 < (Int32.ofNat n3 + (i1_1 + 1 - Int32.ofNat n3)).toInt from (Int.not_le.mp h137)) ?_
            refine w_mv (pc1 := 14) (st1 := [.int (Int32.ofNat n3 + (i1_1 + 1 - Int32.ofNat n3))]) rfl rfl rfl ?_
            refine w_mv (pc1 := 16) (st1 := [.int 2147483639, .int (Int32.ofNat n3 + (i1_1 + 1 - Int32.ofNat n3))]) rfl rfl rfl ?_
            by_cases h138 : 2147483639 < (Int32.ofNat n3 + (i1_1 + 1 - Int32.ofNat n3)).toInt
            ·
              replace hh := hh.1 h138
              refine w_igt_T (pc1 := 21) rfl rfl (show 2147483639 < (Int32.ofNat n3 + (i1_1 + 1 - Int32.ofNat n3)).toInt from h138) ?_
              refine w_mv (pc1 := 22) (st1 := [.int (Int32.ofNat n3)]) rfl rfl rfl ?_
              refine w_mv (pc1 := 23) (st1 := [.int (i1_1 + 1 - Int32.ofNat n3), .int (Int32.ofNat n3)]) rfl rfl rfl ?_
              exact hh.elim
            ·
              replace hh := hh.2 (Int.not_lt.mp h138)
              refine w_igt_F (pc1 := 19) rfl (by decide) rfl (show (Int32.ofNat n3 + (i1_1 + 1 - Int32.ofNat n3)).toInt ≤ 2147483639 from (Int.not_lt.mp h138)) ?_
              refine w_mv (pc1 := 20) (st1 := [.int (Int32.ofNat n3 + (i1_1 + 1 - Int32.ofNat n3))]) rfl rfl rfl ?_
              refine w_iret (pc1 := 30) rfl rfl rfl rfl ?_
              refine w_mv (pc1 := 31) (lv1 := [(3, .int (Int32.ofNat n3 + (i1_1 + 1 - Int32.ofNat n3))), (2, .int (Int32.ofNat n3)), (0, .ref x0), (1, .int (i1_1 + 1))]) (st1 := []) rfl rfl rfl ?_
              refine w_mv (pc1 := 32) (st1 := [.ref x0]) rfl rfl rfl ?_
              refine w_mv (pc1 := 33) (st1 := [.ref x0, .ref x0]) rfl rfl rfl ?_
              refine cw_gf (v := .ref r1_0) (pc1 := 36) rfl (by omega) (by omega) g2 rfl rfl ?_
              refine w_mv (pc1 := 37) (st1 := [.int (Int32.ofNat n3 + (i1_1 + 1 - Int32.ofNat n3)), .ref r1_0, .ref x0]) rfl rfl rfl ?_
              refine w_call (M' := sM_172) (vals := [.ref r1_0, .int (Int32.ofNat n3 + (i1_1 + 1 - Int32.ofNat n3))]) (rest := [.ref x0]) (lv' := [(0, .ref r1_0), (1, .int (Int32.ofNat n3 + (i1_1 + 1 - Int32.ofNat n3)))]) rfl rfl rfl rfl rfl rfl rfl rfl rfl rfl ?_
              refine w_mv (pc1 := 1) (st1 := [.ref r1_0]) rfl rfl rfl ?_
              refine w_mv (pc1 := 2) (st1 := [.int (Int32.ofNat n3 + (i1_1 + 1 - Int32.ofNat n3)), .ref r1_0]) rfl rfl rfl ?_
              refine w_mv (pc1 := 3) (st1 := [.ref r1_0, .int (Int32.ofNat n3 + (i1_1 + 1 - Int32.ofNat n3)), .ref r1_0]) rfl rfl rfl ?_
              obtain ⟨q139a, hh⟩ := hh
              obtain ⟨q140a, hh⟩ := hh
              refine cw_gc (pc1 := 6) rfl (by omega) (by omega) g3 q140a (by omega) (Nat.le_of_ble_eq_true rfl) rfl ?_
              refine w_call (M' := sM_173) (vals := [.ref r1_0, .int (Int32.ofNat n3 + (i1_1 + 1 - Int32.ofNat n3)), .ref 4]) (rest := []) (lv' := [(0, .ref r1_0), (1, .int (Int32.ofNat n3 + (i1_1 + 1 - Int32.ofNat n3))), (2, .ref 4)]) rfl rfl rfl rfl rfl rfl rfl rfl rfl rfl ?_
              refine w_mv (pc1 := 1) (st1 := [.ref 4]) rfl rfl rfl ?_
              obtain ⟨q141a, hh⟩ := hh
              refine cw_lc (pc1 := 6) rfl q141a (by omega) (Nat.le_of_ble_eq_true rfl) rfl ?_
              refine w_mv (pc1 := 7) (st1 := [.int (Int32.ofNat n3 + (i1_1 + 1 - Int32.ofNat n3))]) rfl rfl rfl ?_
              obtain ⟨q142a, hh⟩ := hh
              obtain ⟨n143, q143a, q143b, q143c, hh⟩ := hh
              refine cw_newq (n := n143) (pc1 := 10) rfl rfl (Int32.le_iff_toInt_le.mpr q143a) q143b q143c ?_
              have g144 : (va_up (va_up G x0 (.inr (.inl (13, [.ref r1_0, .int i1_1, .int (i1_2 + 1)])))) N (.inl (4, (n143, .inr (.inr (.inr (.inr (fun _ => none)))))))) x0 = .inr (.inl (13, [.ref r1_0, .int i1_1, .int (i1_2 + 1)])) := (va_ne (by omega)).trans g2
              have g145 : (va_up (va_up G x0 (.inr (.inl (13, [.ref r1_0, .int i1_1, .int (i1_2 + 1)])))) N (.inl (4, (n143, .inr (.inr (.inr (.inr (fun _ => none)))))))) r1_0 = .inl (4, (n3, .inr (.inr (.inr (.inr f3))))) := (va_ne (by omega)).trans g3
              have g146 : (va_up (va_up G x0 (.inr (.inl (13, [.ref r1_0, .int i1_1, .int (i1_2 + 1)])))) N (.inl (4, (n143, .inr (.inr (.inr (.inr (fun _ => none)))))))) N = .inl (4, (n143, .inr (.inr (.inr (.inr (fun _ => none)))))) := up_eq
              refine w_mv (pc1 := 24) (st1 := [.ref N]) rfl rfl rfl ?_
              refine w_mv (pc1 := 25) (lv1 := [(3, .ref N), (0, .ref r1_0), (1, .int (Int32.ofNat n3 + (i1_1 + 1 - Int32.ofNat n3))), (2, .ref 4)]) (st1 := []) rfl rfl rfl ?_
              refine w_mv (pc1 := 26) (st1 := [.ref r1_0]) rfl rfl rfl ?_
              refine w_mv (pc1 := 27) (st1 := [.int 0, .ref r1_0]) rfl rfl rfl ?_
              refine w_mv (pc1 := 28) (st1 := [.ref N, .int 0, .ref r1_0]) rfl rfl rfl ?_
              refine w_mv (pc1 := 29) (st1 := [.int 0, .ref N, .int 0, .ref r1_0]) rfl rfl rfl ?_
              refine w_mv (pc1 := 30) (st1 := [.ref r1_0, .int 0, .ref N, .int 0, .ref r1_0]) rfl rfl rfl ?_
              refine cw_alen (pc1 := 31) rfl (by omega) g145 rfl ?_
              refine w_mv (pc1 := 32) (st1 := [.int (Int32.ofNat n3 + (i1_1 + 1 - Int32.ofNat n3)), .int (Int32.ofNat n3), .int 0, .ref N, .int 0, .ref r1_0]) rfl rfl rfl ?_
              refine w_call (M' := sM_174) (vals := [.int (Int32.ofNat n3), .int (Int32.ofNat n3 + (i1_1 + 1 - Int32.ofNat n3))]) (rest := [.int 0, .ref N, .int 0, .ref r1_0]) (lv' := [(0, .int (Int32.ofNat n3)), (1, .int (Int32.ofNat n3 + (i1_1 + 1 - Int32.ofNat n3)))]) rfl rfl rfl rfl rfl rfl rfl rfl rfl rfl ?_
              refine w_mv (pc1 := 1) (st1 := [.int (Int32.ofNat n3)]) rfl rfl rfl ?_
              refine w_mv (pc1 := 2) (st1 := [.int (Int32.ofNat n3 + (i1_1 + 1 - Int32.ofNat n3)), .int (Int32.ofNat n3)]) rfl rfl rfl ?_
              by_cases h147 : (Int32.ofNat n3 + (i1_1 + 1 - Int32.ofNat n3)).toInt < (Int32.ofNat n3).toInt
              ·
                replace hh := hh.1 h147
                refine w_igt_T (pc1 := 9) rfl rfl (show (Int32.ofNat n3 + (i1_1 + 1 - Int32.ofNat n3)).toInt < (Int32.ofNat n3).toInt from h147) ?_
                refine w_mv (pc1 := 10) (st1 := [.int (Int32.ofNat n3 + (i1_1 + 1 - Int32.ofNat n3))]) rfl rfl rfl ?_
                refine w_iret (pc1 := 35) rfl rfl rfl rfl ?_
                obtain ⟨q148a, hh⟩ := hh
                refine cw_cpq (sp := (0 : Int32)) (dp := (0 : Int32)) (n := (Int32.ofNat n3 + (i1_1 + 1 - Int32.ofNat n3))) (pc1 := 38) rfl (by omega) (by omega) g145 (by omega) (by omega) g146 (by omega) (Nat.le_of_ble_eq_true rfl) q148a rfl ?_
                have g149 : (va_up (va_up (va_up G x0 (.inr (.inl (13, [.ref r1_0, .int i1_1, .int (i1_2 + 1)])))) N (.inl (4, (n143, .inr (.inr (.inr (.inr (fun _ => none)))))))) N (.inl (4, (n143, .inr (.inr (.inr (.inr (va_cpy f3 (fun _ => none) (0 : Int32).toNatClampNeg (0 : Int32).toNatClampNeg (Int32.ofNat n3 + (i1_1 + 1 - Int32.ofNat n3)).toNatClampNeg)))))))) x0 = .inr (.inl (13, [.ref r1_0, .int i1_1, .int (i1_2 + 1)])) := (va_ne (ne_oa g144 g146)).trans g144
                have g150 : (va_up (va_up (va_up G x0 (.inr (.inl (13, [.ref r1_0, .int i1_1, .int (i1_2 + 1)])))) N (.inl (4, (n143, .inr (.inr (.inr (.inr (fun _ => none)))))))) N (.inl (4, (n143, .inr (.inr (.inr (.inr (va_cpy f3 (fun _ => none) (0 : Int32).toNatClampNeg (0 : Int32).toNatClampNeg (Int32.ofNat n3 + (i1_1 + 1 - Int32.ofNat n3)).toNatClampNeg)))))))) N = .inl (4, (n143, .inr (.inr (.inr (.inr (va_cpy f3 (fun _ => none) (0 : Int32).toNatClampNeg (0 : Int32).toNatClampNeg (Int32.ofNat n3 + (i1_1 + 1 - Int32.ofNat n3)).toNatClampNeg)))))) := up_eq
                refine w_mv (pc1 := 39) (st1 := [.ref N]) rfl rfl rfl ?_
                refine w_aret (pc1 := 9) rfl rfl rfl rfl ?_
                refine w_aret (pc1 := 40) rfl rfl rfl rfl ?_
                refine w_mv (pc1 := 41) (st1 := [.ref N, .ref x0, .ref N]) rfl rfl rfl ?_
                refine cw_pf (c1 := .inr (.inl (13, [.ref N, .int i1_1, .int (i1_2 + 1)]))) (pc1 := 44) rfl (by omega) (by omega) g149 rfl rfl rfl rfl ?_
                have g151 : (va_up (va_up (va_up (va_up G x0 (.inr (.inl (13, [.ref r1_0, .int i1_1, .int (i1_2 + 1)])))) N (.inl (4, (n143, .inr (.inr (.inr (.inr (fun _ => none)))))))) N (.inl (4, (n143, .inr (.inr (.inr (.inr (va_cpy f3 (fun _ => none) (0 : Int32).toNatClampNeg (0 : Int32).toNatClampNeg (Int32.ofNat n3 + (i1_1 + 1 - Int32.ofNat n3)).toNatClampNeg)))))))) x0 (.inr (.inl (13, [.ref N, .int i1_1, .int (i1_2 + 1)])))) N = .inl (4, (n143, .inr (.inr (.inr (.inr (va_cpy f3 (fun _ => none) (0 : Int32).toNatClampNeg (0 : Int32).toNatClampNeg (Int32.ofNat n3 + (i1_1 + 1 - Int32.ofNat n3)).toNatClampNeg)))))) := (va_ne (ne_ao g150 g149)).trans g150
                have g152 : (va_up (va_up (va_up (va_up G x0 (.inr (.inl (13, [.ref r1_0, .int i1_1, .int (i1_2 + 1)])))) N (.inl (4, (n143, .inr (.inr (.inr (.inr (fun _ => none)))))))) N (.inl (4, (n143, .inr (.inr (.inr (.inr (va_cpy f3 (fun _ => none) (0 : Int32).toNatClampNeg (0 : Int32).toNatClampNeg (Int32.ofNat n3 + (i1_1 + 1 - Int32.ofNat n3)).toNatClampNeg)))))))) x0 (.inr (.inl (13, [.ref N, .int i1_1, .int (i1_2 + 1)])))) x0 = .inr (.inl (13, [.ref N, .int i1_1, .int (i1_2 + 1)])) := up_eq
                refine w_aret (pc1 := 10) rfl rfl rfl rfl ?_
                refine w_aret (pc1 := 10) rfl rfl rfl rfl ?_
                refine w_mv (pc1 := 11) (lv1 := [(2, .ref N), (0, .ref x0), (1, .ref y1), (3, .int i1_1)]) (st1 := []) rfl rfl rfl ?_
                refine w_mv (pc1 := 12) (st1 := [.ref N]) rfl rfl rfl ?_
                refine w_mv (pc1 := 13) (st1 := [.int i1_1, .ref N]) rfl rfl rfl ?_
                refine w_mv (pc1 := 14) (st1 := [.ref y1, .int i1_1, .ref N]) rfl rfl rfl ?_
                obtain ⟨q153a, q153b, hh⟩ := hh
                obtain ⟨u154a, u154b, c154, w154, u154c, u154d, hh⟩ := hh
                refine cw_as (pc1 := 15) rfl (by omega) (by omega) g151 (by omega) (by omega) u154c u154d q153a q153b rfl ?_
                have g155 : (va_up (va_up (va_up (va_up (va_up G x0 (.inr (.inl (13, [.ref r1_0, .int i1_1, .int (i1_2 + 1)])))) N (.inl (4, (n143, .inr (.inr (.inr (.inr (fun _ => none)))))))) N (.inl (4, (n143, .inr (.inr (.inr (.inr (va_cpy f3 (fun _ => none) (0 : Int32).toNatClampNeg (0 : Int32).toNatClampNeg (Int32.ofNat n3 + (i1_1 + 1 - Int32.ofNat n3)).toNatClampNeg)))))))) x0 (.inr (.inl (13, [.ref N, .int i1_1, .int (i1_2 + 1)])))) N (.inl (4, (n143, .inr (.inr (.inr (.inr (va_up (va_cpy f3 (fun _ => none) (0 : Int32).toNatClampNeg (0 : Int32).toNatClampNeg (Int32.ofNat n3 + (i1_1 + 1 - Int32.ofNat n3)).toNatClampNeg) i1_1.toNatClampNeg (some y1))))))))) x0 = .inr (.inl (13, [.ref N, .int i1_1, .int (i1_2 + 1)])) := (va_ne (ne_oa g152 g151)).trans g152
                have g156 : (va_up (va_up (va_up (va_up (va_up G x0 (.inr (.inl (13, [.ref r1_0, .int i1_1, .int (i1_2 + 1)])))) N (.inl (4, (n143, .inr (.inr (.inr (.inr (fun _ => none)))))))) N (.inl (4, (n143, .inr (.inr (.inr (.inr (va_cpy f3 (fun _ => none) (0 : Int32).toNatClampNeg (0 : Int32).toNatClampNeg (Int32.ofNat n3 + (i1_1 + 1 - Int32.ofNat n3)).toNatClampNeg)))))))) x0 (.inr (.inl (13, [.ref N, .int i1_1, .int (i1_2 + 1)])))) N (.inl (4, (n143, .inr (.inr (.inr (.inr (va_up (va_cpy f3 (fun _ => none) (0 : Int32).toNatClampNeg (0 : Int32).toNatClampNeg (Int32.ofNat n3 + (i1_1 + 1 - Int32.ofNat n3)).toNatClampNeg) i1_1.toNatClampNeg (some y1))))))))) N = .inl (4, (n143, .inr (.inr (.inr (.inr (va_up (va_cpy f3 (fun _ => none) (0 : Int32).toNatClampNeg (0 : Int32).toNatClampNeg (Int32.ofNat n3 + (i1_1 + 1 - Int32.ofNat n3)).toNatClampNeg) i1_1.toNatClampNeg (some y1))))))) := up_eq
                refine w_mv (pc1 := 16) (st1 := [.ref x0]) rfl rfl rfl ?_
                refine w_mv (pc1 := 17) (st1 := [.int i1_1, .ref x0]) rfl rfl rfl ?_
                refine w_mv (pc1 := 18) (st1 := [.int 1, .int i1_1, .ref x0]) rfl rfl rfl ?_
                refine w_mv (pc1 := 19) (st1 := [.int (i1_1 + 1), .ref x0]) rfl rfl rfl ?_
                refine cw_pf (c1 := .inr (.inl (13, [.ref N, .int (i1_1 + 1), .int (i1_2 + 1)]))) (pc1 := 22) rfl (by omega) (by omega) g155 rfl rfl rfl rfl ?_
                have g157 : (va_up (va_up (va_up (va_up (va_up (va_up G x0 (.inr (.inl (13, [.ref r1_0, .int i1_1, .int (i1_2 + 1)])))) N (.inl (4, (n143, .inr (.inr (.inr (.inr (fun _ => none)))))))) N (.inl (4, (n143, .inr (.inr (.inr (.inr (va_cpy f3 (fun _ => none) (0 : Int32).toNatClampNeg (0 : Int32).toNatClampNeg (Int32.ofNat n3 + (i1_1 + 1 - Int32.ofNat n3)).toNatClampNeg)))))))) x0 (.inr (.inl (13, [.ref N, .int i1_1, .int (i1_2 + 1)])))) N (.inl (4, (n143, .inr (.inr (.inr (.inr (va_up (va_cpy f3 (fun _ => none) (0 : Int32).toNatClampNeg (0 : Int32).toNatClampNeg (Int32.ofNat n3 + (i1_1 + 1 - Int32.ofNat n3)).toNatClampNeg) i1_1.toNatClampNeg (some y1))))))))) x0 (.inr (.inl (13, [.ref N, .int (i1_1 + 1), .int (i1_2 + 1)])))) N = .inl (4, (n143, .inr (.inr (.inr (.inr (va_up (va_cpy f3 (fun _ => none) (0 : Int32).toNatClampNeg (0 : Int32).toNatClampNeg (Int32.ofNat n3 + (i1_1 + 1 - Int32.ofNat n3)).toNatClampNeg) i1_1.toNatClampNeg (some y1))))))) := (va_ne (ne_ao g156 g155)).trans g156
                have g158 : (va_up (va_up (va_up (va_up (va_up (va_up G x0 (.inr (.inl (13, [.ref r1_0, .int i1_1, .int (i1_2 + 1)])))) N (.inl (4, (n143, .inr (.inr (.inr (.inr (fun _ => none)))))))) N (.inl (4, (n143, .inr (.inr (.inr (.inr (va_cpy f3 (fun _ => none) (0 : Int32).toNatClampNeg (0 : Int32).toNatClampNeg (Int32.ofNat n3 + (i1_1 + 1 - Int32.ofNat n3)).toNatClampNeg)))))))) x0 (.inr (.inl (13, [.ref N, .int i1_1, .int (i1_2 + 1)])))) N (.inl (4, (n143, .inr (.inr (.inr (.inr (va_up (va_cpy f3 (fun _ => none) (0 : Int32).toNatClampNeg (0 : Int32).toNatClampNeg (Int32.ofNat n3 + (i1_1 + 1 - Int32.ofNat n3)).toNatClampNeg) i1_1.toNatClampNeg (some y1))))))))) x0 (.inr (.inl (13, [.ref N, .int (i1_1 + 1), .int (i1_2 + 1)])))) x0 = .inr (.inl (13, [.ref N, .int (i1_1 + 1), .int (i1_2 + 1)])) := up_eq
                refine w_vret (pc1 := 23) rfl rfl rfl ?_
                refine w_mv (pc1 := 24) (st1 := [.int 1]) rfl rfl rfl ?_
                refine sx_wp.stop rfl rfl rfl ?_
                exact c_acc (hP _ _ _ _ _ hh) (by omega) (by omega)
              ·
                replace hh := hh.2 (Int.not_lt.mp h147)
                refine w_igt_F (pc1 := 5) rfl (by decide) rfl (show (Int32.ofNat n3).toInt ≤ (Int32.ofNat n3 + (i1_1 + 1 - Int32.ofNat n3)).toInt from (Int.not_lt.mp h147)) ?_
                refine w_mv (pc1 := 6) (st1 := [.int (Int32.ofNat n3)]) rfl rfl rfl ?_
                refine w_mv (pc1 := 10) (st1 := [.int (Int32.ofNat n3)]) rfl rfl rfl ?_
                refine w_iret (pc1 := 35) rfl rfl rfl rfl ?_
                obtain ⟨q159a, hh⟩ := hh
                refine cw_cpq (sp := (0 : Int32)) (dp := (0 : Int32)) (n := (Int32.ofNat n3)) (pc1 := 38) rfl (by omega) (by omega) g145 (by omega) (by omega) g146 (by omega) (Nat.le_of_ble_eq_true rfl) q159a rfl ?_
                have g160 : (va_up (va_up (va_up G x0 (.inr (.inl (13, [.ref r1_0, .int i1_1, .int (i1_2 + 1)])))) N (.inl (4, (n143, .inr (.inr (.inr (.inr (fun _ => none)))))))) N (.inl (4, (n143, .inr (.inr (.inr (.inr (va_cpy f3 (fun _ => none) (0 : Int32).toNatClampNeg (0 : Int32).toNatClampNeg (Int32.ofNat n3).toNatClampNeg)))))))) x0 = .inr (.inl (13, [.ref r1_0, .int i1_1, .int (i1_2 + 1)])) := (va_ne (ne_oa g144 g146)).trans g144
                have g161 : (va_up (va_up (va_up G x0 (.inr (.inl (13, [.ref r1_0, .int i1_1, .int (i1_2 + 1)])))) N (.inl (4, (n143, .inr (.inr (.inr (.inr (fun _ => none)))))))) N (.inl (4, (n143, .inr (.inr (.inr (.inr (va_cpy f3 (fun _ => none) (0 : Int32).toNatClampNeg (0 : Int32).toNatClampNeg (Int32.ofNat n3).toNatClampNeg)))))))) N = .inl (4, (n143, .inr (.inr (.inr (.inr (va_cpy f3 (fun _ => none) (0 : Int32).toNatClampNeg (0 : Int32).toNatClampNeg (Int32.ofNat n3).toNatClampNeg)))))) := up_eq
                refine w_mv (pc1 := 39) (st1 := [.ref N]) rfl rfl rfl ?_
                refine w_aret (pc1 := 9) rfl rfl rfl rfl ?_
                refine w_aret (pc1 := 40) rfl rfl rfl rfl ?_
                refine w_mv (pc1 := 41) (st1 := [.ref N, .ref x0, .ref N]) rfl rfl rfl ?_
                refine cw_pf (c1 := .inr (.inl (13, [.ref N, .int i1_1, .int (i1_2 + 1)]))) (pc1 := 44) rfl (by omega) (by omega) g160 rfl rfl rfl rfl ?_
                have g162 : (va_up (va_up (va_up (va_up G x0 (.inr (.inl (13, [.ref r1_0, .int i1_1, .int (i1_2 + 1)])))) N (.inl (4, (n143, .inr (.inr (.inr (.inr (fun _ => none)))))))) N (.inl (4, (n143, .inr (.inr (.inr (.inr (va_cpy f3 (fun _ => none) (0 : Int32).toNatClampNeg (0 : Int32).toNatClampNeg (Int32.ofNat n3).toNatClampNeg)))))))) x0 (.inr (.inl (13, [.ref N, .int i1_1, .int (i1_2 + 1)])))) N = .inl (4, (n143, .inr (.inr (.inr (.inr (va_cpy f3 (fun _ => none) (0 : Int32).toNatClampNeg (0 : Int32).toNatClampNeg (Int32.ofNat n3).toNatClampNeg)))))) := (va_ne (ne_ao g161 g160)).trans g161
                have g163 : (va_up (va_up (va_up (va_up G x0 (.inr (.inl (13, [.ref r1_0, .int i1_1, .int (i1_2 + 1)])))) N (.inl (4, (n143, .inr (.inr (.inr (.inr (fun _ => none)))))))) N (.inl (4, (n143, .inr (.inr (.inr (.inr (va_cpy f3 (fun _ => none) (0 : Int32).toNatClampNeg (0 : Int32).toNatClampNeg (Int32.ofNat n3).toNatClampNeg)))))))) x0 (.inr (.inl (13, [.ref N, .int i1_1, .int (i1_2 + 1)])))) x0 = .inr (.inl (13, [.ref N, .int i1_1, .int (i1_2 + 1)])) := up_eq
                refine w_aret (pc1 := 10) rfl rfl rfl rfl ?_
                refine w_aret (pc1 := 10) rfl rfl rfl rfl ?_
                refine w_mv (pc1 := 11) (lv1 := [(2, .ref N), (0, .ref x0), (1, .ref y1), (3, .int i1_1)]) (st1 := []) rfl rfl rfl ?_
                refine w_mv (pc1 := 12) (st1 := [.ref N]) rfl rfl rfl ?_
                refine w_mv (pc1 := 13) (st1 := [.int i1_1, .ref N]) rfl rfl rfl ?_
                refine w_mv (pc1 := 14) (st1 := [.ref y1, .int i1_1, .ref N]) rfl rfl rfl ?_
                obtain ⟨q164a, q164b, hh⟩ := hh
                obtain ⟨u165a, u165b, c165, w165, u165c, u165d, hh⟩ := hh
                refine cw_as (pc1 := 15) rfl (by omega) (by omega) g162 (by omega) (by omega) u165c u165d q164a q164b rfl ?_
                have g166 : (va_up (va_up (va_up (va_up (va_up G x0 (.inr (.inl (13, [.ref r1_0, .int i1_1, .int (i1_2 + 1)])))) N (.inl (4, (n143, .inr (.inr (.inr (.inr (fun _ => none)))))))) N (.inl (4, (n143, .inr (.inr (.inr (.inr (va_cpy f3 (fun _ => none) (0 : Int32).toNatClampNeg (0 : Int32).toNatClampNeg (Int32.ofNat n3).toNatClampNeg)))))))) x0 (.inr (.inl (13, [.ref N, .int i1_1, .int (i1_2 + 1)])))) N (.inl (4, (n143, .inr (.inr (.inr (.inr (va_up (va_cpy f3 (fun _ => none) (0 : Int32).toNatClampNeg (0 : Int32).toNatClampNeg (Int32.ofNat n3).toNatClampNeg) i1_1.toNatClampNeg (some y1))))))))) x0 = .inr (.inl (13, [.ref N, .int i1_1, .int (i1_2 + 1)])) := (va_ne (ne_oa g163 g162)).trans g163
                have g167 : (va_up (va_up (va_up (va_up (va_up G x0 (.inr (.inl (13, [.ref r1_0, .int i1_1, .int (i1_2 + 1)])))) N (.inl (4, (n143, .inr (.inr (.inr (.inr (fun _ => none)))))))) N (.inl (4, (n143, .inr (.inr (.inr (.inr (va_cpy f3 (fun _ => none) (0 : Int32).toNatClampNeg (0 : Int32).toNatClampNeg (Int32.ofNat n3).toNatClampNeg)))))))) x0 (.inr (.inl (13, [.ref N, .int i1_1, .int (i1_2 + 1)])))) N (.inl (4, (n143, .inr (.inr (.inr (.inr (va_up (va_cpy f3 (fun _ => none) (0 : Int32).toNatClampNeg (0 : Int32).toNatClampNeg (Int32.ofNat n3).toNatClampNeg) i1_1.toNatClampNeg (some y1))))))))) N = .inl (4, (n143, .inr (.inr (.inr (.inr (va_up (va_cpy f3 (fun _ => none) (0 : Int32).toNatClampNeg (0 : Int32).toNatClampNeg (Int32.ofNat n3).toNatClampNeg) i1_1.toNatClampNeg (some y1))))))) := up_eq
                refine w_mv (pc1 := 16) (st1 := [.ref x0]) rfl rfl rfl ?_
                refine w_mv (pc1 := 17) (st1 := [.int i1_1, .ref x0]) rfl rfl rfl ?_
                refine w_mv (pc1 := 18) (st1 := [.int 1, .int i1_1, .ref x0]) rfl rfl rfl ?_
                refine w_mv (pc1 := 19) (st1 := [.int (i1_1 + 1), .ref x0]) rfl rfl rfl ?_
                refine cw_pf (c1 := .inr (.inl (13, [.ref N, .int (i1_1 + 1), .int (i1_2 + 1)]))) (pc1 := 22) rfl (by omega) (by omega) g166 rfl rfl rfl rfl ?_
                have g168 : (va_up (va_up (va_up (va_up (va_up (va_up G x0 (.inr (.inl (13, [.ref r1_0, .int i1_1, .int (i1_2 + 1)])))) N (.inl (4, (n143, .inr (.inr (.inr (.inr (fun _ => none)))))))) N (.inl (4, (n143, .inr (.inr (.inr (.inr (va_cpy f3 (fun _ => none) (0 : Int32).toNatClampNeg (0 : Int32).toNatClampNeg (Int32.ofNat n3).toNatClampNeg)))))))) x0 (.inr (.inl (13, [.ref N, .int i1_1, .int (i1_2 + 1)])))) N (.inl (4, (n143, .inr (.inr (.inr (.inr (va_up (va_cpy f3 (fun _ => none) (0 : Int32).toNatClampNeg (0 : Int32).toNatClampNeg (Int32.ofNat n3).toNatClampNeg) i1_1.toNatClampNeg (some y1))))))))) x0 (.inr (.inl (13, [.ref N, .int (i1_1 + 1), .int (i1_2 + 1)])))) N = .inl (4, (n143, .inr (.inr (.inr (.inr (va_up (va_cpy f3 (fun _ => none) (0 : Int32).toNatClampNeg (0 : Int32).toNatClampNeg (Int32.ofNat n3).toNatClampNeg) i1_1.toNatClampNeg (some y1))))))) := (va_ne (ne_ao g167 g166)).trans g167
                have g169 : (va_up (va_up (va_up (va_up (va_up (va_up G x0 (.inr (.inl (13, [.ref r1_0, .int i1_1, .int (i1_2 + 1)])))) N (.inl (4, (n143, .inr (.inr (.inr (.inr (fun _ => none)))))))) N (.inl (4, (n143, .inr (.inr (.inr (.inr (va_cpy f3 (fun _ => none) (0 : Int32).toNatClampNeg (0 : Int32).toNatClampNeg (Int32.ofNat n3).toNatClampNeg)))))))) x0 (.inr (.inl (13, [.ref N, .int i1_1, .int (i1_2 + 1)])))) N (.inl (4, (n143, .inr (.inr (.inr (.inr (va_up (va_cpy f3 (fun _ => none) (0 : Int32).toNatClampNeg (0 : Int32).toNatClampNeg (Int32.ofNat n3).toNatClampNeg) i1_1.toNatClampNeg (some y1))))))))) x0 (.inr (.inl (13, [.ref N, .int (i1_1 + 1), .int (i1_2 + 1)])))) x0 = .inr (.inl (13, [.ref N, .int (i1_1 + 1), .int (i1_2 + 1)])) := up_eq
                refine w_vret (pc1 := 23) rfl rfl rfl ?_
                refine w_mv (pc1 := 24) (st1 := [.int 1]) rfl rfl rfl ?_
                refine sx_wp.stop rfl rfl rfl ?_
                exact c_acc (hP _ _ _ _ _ hh) (by omega) (by omega)
  ·
    replace hh := hh.1 h4
    refine w_ine_T (pc1 := 11) rfl rfl (show i1_1.toInt ≠ (Int32.ofNat n3).toInt from h4) ?_
    refine w_mv (pc1 := 12) (st1 := [.ref r1_0]) rfl rfl rfl ?_
    refine w_mv (pc1 := 13) (st1 := [.int i1_1, .ref r1_0]) rfl rfl rfl ?_
    refine w_mv (pc1 := 14) (st1 := [.ref y1, .int i1_1, .ref r1_0]) rfl rfl rfl ?_
    obtain ⟨q170a, hh⟩ := hh
    obtain ⟨q171a, q171b, hh⟩ := hh
    obtain ⟨u172a, u172b, c172, w172, u172c, u172d, hh⟩ := hh
    refine cw_as (pc1 := 15) rfl (by omega) (by omega) g3 (by omega) (by omega) u172c u172d q171a q171b rfl ?_
    have g173 : (va_up (va_up G x0 (.inr (.inl (13, [.ref r1_0, .int i1_1, .int (i1_2 + 1)])))) r1_0 (.inl (4, (n3, .inr (.inr (.inr (.inr (va_up f3 i1_1.toNatClampNeg (some y1))))))))) x0 = .inr (.inl (13, [.ref r1_0, .int i1_1, .int (i1_2 + 1)])) := (va_ne (ne_oa g2 g3)).trans g2
    have g174 : (va_up (va_up G x0 (.inr (.inl (13, [.ref r1_0, .int i1_1, .int (i1_2 + 1)])))) r1_0 (.inl (4, (n3, .inr (.inr (.inr (.inr (va_up f3 i1_1.toNatClampNeg (some y1))))))))) r1_0 = .inl (4, (n3, .inr (.inr (.inr (.inr (va_up f3 i1_1.toNatClampNeg (some y1))))))) := up_eq
    refine w_mv (pc1 := 16) (st1 := [.ref x0]) rfl rfl rfl ?_
    refine w_mv (pc1 := 17) (st1 := [.int i1_1, .ref x0]) rfl rfl rfl ?_
    refine w_mv (pc1 := 18) (st1 := [.int 1, .int i1_1, .ref x0]) rfl rfl rfl ?_
    refine w_mv (pc1 := 19) (st1 := [.int (i1_1 + 1), .ref x0]) rfl rfl rfl ?_
    refine cw_pf (c1 := .inr (.inl (13, [.ref r1_0, .int (i1_1 + 1), .int (i1_2 + 1)]))) (pc1 := 22) rfl (by omega) (by omega) g173 rfl rfl rfl rfl ?_
    have g175 : (va_up (va_up (va_up G x0 (.inr (.inl (13, [.ref r1_0, .int i1_1, .int (i1_2 + 1)])))) r1_0 (.inl (4, (n3, .inr (.inr (.inr (.inr (va_up f3 i1_1.toNatClampNeg (some y1))))))))) x0 (.inr (.inl (13, [.ref r1_0, .int (i1_1 + 1), .int (i1_2 + 1)])))) r1_0 = .inl (4, (n3, .inr (.inr (.inr (.inr (va_up f3 i1_1.toNatClampNeg (some y1))))))) := (va_ne (ne_ao g174 g173)).trans g174
    have g176 : (va_up (va_up (va_up G x0 (.inr (.inl (13, [.ref r1_0, .int i1_1, .int (i1_2 + 1)])))) r1_0 (.inl (4, (n3, .inr (.inr (.inr (.inr (va_up f3 i1_1.toNatClampNeg (some y1))))))))) x0 (.inr (.inl (13, [.ref r1_0, .int (i1_1 + 1), .int (i1_2 + 1)])))) x0 = .inr (.inl (13, [.ref r1_0, .int (i1_1 + 1), .int (i1_2 + 1)])) := up_eq
    refine w_vret (pc1 := 23) rfl rfl rfl ?_
    refine w_mv (pc1 := 24) (st1 := [.int 1]) rfl rfl rfl ?_
    refine sx_wp.stop rfl rfl rfl ?_
    exact c_acc (hP _ _ _ _ _ hh) (by omega) (by omega)
set_option maxRecDepth 20000 in
set_option maxHeartbeats 4000000 in
theorem k_175_0 {x0 : Nat} {p1 : Int32} {N : Nat} {G : Nat → sx_C} {K : Option Value ⊕ Nat → Nat → (Nat → sx_C) → Nat → Nat → Prop} (hh : 5 ≤ x0 ∧ x0 < N ∧ ∃ (r1_0 : Nat) (i1_1 : Int32) (i1_2 : Int32), G x0 = .inr (.inl (13, [.ref r1_0, .int i1_1, .int i1_2])) ∧ ((p1.toInt < 0 → False) ∧ (0 ≤ p1.toInt → ((p1.toInt < i1_1.toInt → r1_0 < N ∧ ∃ (n4 : Nat) (f4 : Nat → Option Nat), G r1_0 = .inl (4, (n4, .inr (.inr (.inr (.inr f4))))) ∧ 0 ≤ p1.toInt ∧ p1.toInt < (n4 : Nat) ∧ ∃ x6, f4 p1.toNatClampNeg = some x6 ∧ (((i1_1 - 1).toInt ≤ p1.toInt → 5 ≤ r1_0 ∧ 0 ≤ (i1_1 - 1).toInt ∧ (i1_1 - 1).toInt < (n4 : Nat) ∧ K (.inl (some (.ref x6))) (N) (va_up (va_up G x0 (.inr (.inl (13, [.ref r1_0, .int (i1_1 - 1), .int (i1_2 + 1)])))) r1_0 (.inl (4, (n4, .inr (.inr (.inr (.inr (va_up f4 (i1_1 - 1).toNatClampNeg none)))))))) (0) (0)) ∧ (p1.toInt < (i1_1 - 1).toInt → 5 ≤ r1_0 ∧ (0 ≤ (p1 + 1).toInt ∧ 0 ≤ p1.toInt ∧ 0 ≤ (i1_1 - 1 - p1).toInt ∧ (p1 + 1).toInt + (i1_1 - 1 - p1).toInt ≤ ((n4 : Nat) : Int) ∧ p1.toInt + (i1_1 - 1 - p1).toInt ≤ ((n4 : Nat) : Int) ∧ ∀ i, i < (i1_1 - 1 - p1).toNatClampNeg → c_el N (va_up G x0 (.inr (.inl (13, [.ref r1_0, .int i1_1, .int (i1_2 + 1)])))) (f4 ((p1 + 1).toNatClampNeg + i))) ∧ 0 ≤ (i1_1 - 1).toInt ∧ (i1_1 - 1).toInt < (n4 : Nat) ∧ K (.inl (some (.ref x6))) (N) (va_up (va_up (va_up (va_up G x0 (.inr (.inl (13, [.ref r1_0, .int i1_1, .int (i1_2 + 1)])))) r1_0 (.inl (4, (n4, .inr (.inr (.inr (.inr (va_cpy f4 f4 (p1 + 1).toNatClampNeg p1.toNatClampNeg (i1_1 - 1 - p1).toNatClampNeg)))))))) x0 (.inr (.inl (13, [.ref r1_0, .int (i1_1 - 1), .int (i1_2 + 1)])))) r1_0 (.inl (4, (n4, .inr (.inr (.inr (.inr (va_up (va_cpy f4 f4 (p1 + 1).toNatClampNeg p1.toNatClampNeg (i1_1 - 1 - p1).toNatClampNeg) (i1_1 - 1).toNatClampNeg none)))))))) (0) (0)))) ∧ (i1_1.toInt ≤ p1.toInt → False))))) : cT (3) sM_175 0 [(0, .ref x0), (1, .int p1)] [] N G K := by
  intro d dc ds P hP
  refine w_mv (pc1 := 1) (st1 := [.int p1]) rfl rfl rfl ?_
  refine w_mv (pc1 := 2) (st1 := [.ref x0, .int p1]) rfl rfl rfl ?_
  obtain ⟨b1a, b1b, r1_0, i1_1, i1_2, g1, hh⟩ := hh
  refine cw_gf (v := .int i1_1) (pc1 := 5) rfl (by omega) (by omega) g1 rfl rfl ?_
  refine w_call (M' := sM_176) (vals := [.int p1, .int i1_1]) (rest := []) (lv' := [(0, .int p1), (1, .int i1_1)]) rfl rfl rfl rfl rfl rfl rfl rfl rfl rfl ?_
  refine w_mv (pc1 := 1) (st1 := [.int p1]) rfl rfl rfl ?_
  refine w_mv (pc1 := 2) (st1 := [.int i1_1, .int p1]) rfl rfl rfl ?_
  refine w_mv (pc1 := 3) (st1 := [.null, .int i1_1, .int p1]) rfl rfl rfl ?_
  refine w_call (M' := sM_177) (vals := [.int p1, .int i1_1, .null]) (rest := []) (lv' := [(0, .int p1), (1, .int i1_1), (2, .null)]) rfl rfl rfl rfl rfl rfl rfl rfl rfl rfl ?_
  refine w_mv (pc1 := 1) (st1 := [.int p1]) rfl rfl rfl ?_
  by_cases h2 : p1.toInt < 0
  ·
    replace hh := hh.1 h2
    refine w_zlt_T (pc1 := 9) rfl rfl (show p1.toInt < 0 from h2) ?_
    refine w_mv (pc1 := 10) (st1 := [.null]) rfl rfl rfl ?_
    refine w_mv (pc1 := 11) (st1 := [.int p1, .null]) rfl rfl rfl ?_
    refine w_mv (pc1 := 12) (st1 := [.int i1_1, .int p1, .null]) rfl rfl rfl ?_
    exact hh.elim
  ·
    replace hh := hh.2 (Int.not_lt.mp h2)
    refine w_zlt_F (pc1 := 4) rfl (by decide) rfl (show 0 ≤ p1.toInt from (Int.not_lt.mp h2)) ?_
    refine w_mv (pc1 := 5) (st1 := [.int p1]) rfl rfl rfl ?_
    refine w_mv (pc1 := 6) (st1 := [.int i1_1, .int p1]) rfl rfl rfl ?_
    by_cases h3 : p1.toInt < i1_1.toInt
    ·
      replace hh := hh.1 h3
      refine w_ilt_T (pc1 := 16) rfl rfl (show p1.toInt < i1_1.toInt from h3) ?_
      refine w_mv (pc1 := 17) (st1 := [.int p1]) rfl rfl rfl ?_
      refine w_iret (pc1 := 6) rfl rfl rfl rfl ?_
      refine w_iret (pc1 := 8) rfl rfl rfl rfl ?_
      refine w_mv (pc1 := 9) (st1 := []) rfl rfl rfl ?_
      refine w_mv (pc1 := 10) (st1 := [.ref x0]) rfl rfl rfl ?_
      refine cw_gf (v := .ref r1_0) (pc1 := 13) rfl (by omega) (by omega) g1 rfl rfl ?_
      refine w_mv (pc1 := 14) (lv1 := [(2, .ref r1_0), (0, .ref x0), (1, .int p1)]) (st1 := []) rfl rfl rfl ?_
      refine w_mv (pc1 := 15) (st1 := [.ref r1_0]) rfl rfl rfl ?_
      refine w_mv (pc1 := 16) (st1 := [.int p1, .ref r1_0]) rfl rfl rfl ?_
      obtain ⟨b4b, n4, f4, g4, hh⟩ := hh
      obtain ⟨q5a, q5b, hh⟩ := hh
      refine cw_ald (pc1 := 17) rfl (by omega) g4 rfl q5a q5b rfl ?_
      obtain ⟨x6, e6, hh⟩ := hh
      rw [e6]
      refine w_mv (pc1 := 18) (lv1 := [(3, .ref x6), (2, .ref r1_0), (0, .ref x0), (1, .int p1)]) (st1 := []) rfl rfl rfl ?_
      refine w_mv (pc1 := 19) (st1 := [.ref x0]) rfl rfl rfl ?_
      refine w_mv (pc1 := 20) (st1 := [.ref r1_0, .ref x0]) rfl rfl rfl ?_
      refine w_mv (pc1 := 21) (st1 := [.int p1, .ref r1_0, .ref x0]) rfl rfl rfl ?_
      refine w_call (M' := sM_178) (vals := [.ref x0, .ref r1_0, .int p1]) (rest := []) (lv' := [(0, .ref x0), (1, .ref r1_0), (2, .int p1)]) rfl rfl rfl rfl rfl rfl (cH_rcv (by omega) (by omega) g1) rfl rfl rfl ?_
      refine w_mv (pc1 := 1) (st1 := [.ref x0]) rfl rfl rfl ?_
      refine w_mv (pc1 := 2) (st1 := [.ref x0, .ref x0]) rfl rfl rfl ?_
      refine cw_gf (v := .int i1_2) (pc1 := 5) rfl (by omega) (by omega) g1 rfl rfl ?_
      refine w_mv (pc1 := 6) (st1 := [.int 1, .int i1_2, .ref x0]) rfl rfl rfl ?_
      refine w_mv (pc1 := 7) (st1 := [.int (i1_2 + 1), .ref x0]) rfl rfl rfl ?_
      refine cw_pf (c1 := .inr (.inl (13, [.ref r1_0, .int i1_1, .int (i1_2 + 1)]))) (pc1 := 10) rfl (by omega) (by omega) g1 rfl rfl rfl rfl ?_
      have g7 : (va_up G x0 (.inr (.inl (13, [.ref r1_0, .int i1_1, .int (i1_2 + 1)])))) r1_0 = .inl (4, (n4, .inr (.inr (.inr (.inr f4))))) := (va_ne (ne_ao g4 g1)).trans g4
      have g8 : (va_up G x0 (.inr (.inl (13, [.ref r1_0, .int i1_1, .int (i1_2 + 1)])))) x0 = .inr (.inl (13, [.ref r1_0, .int i1_1, .int (i1_2 + 1)])) := up_eq
      refine w_mv (pc1 := 11) (st1 := [.ref x0]) rfl rfl rfl ?_
      refine cw_gf (v := .int i1_1) (pc1 := 14) rfl (by omega) (by omega) g8 rfl rfl ?_
      refine w_mv (pc1 := 15) (st1 := [.int 1, .int i1_1]) rfl rfl rfl ?_
      refine w_mv (pc1 := 16) (st1 := [.int (i1_1 - 1)]) rfl rfl rfl ?_
      refine w_mv (pc1 := 17) (st1 := [.int (i1_1 - 1), .int (i1_1 - 1)]) rfl rfl rfl ?_
      refine w_mv (pc1 := 18) (lv1 := [(3, .int (i1_1 - 1)), (0, .ref x0), (1, .ref r1_0), (2, .int p1)]) (st1 := [.int (i1_1 - 1)]) rfl rfl rfl ?_
      refine w_mv (pc1 := 19) (st1 := [.int p1, .int (i1_1 - 1)]) rfl rfl rfl ?_
      by_cases h9 : (i1_1 - 1).toInt ≤ p1.toInt
      ·
        replace hh := hh.1 h9
        refine w_ile_T (pc1 := 34) rfl rfl (show (i1_1 - 1).toInt ≤ p1.toInt from h9) ?_
        refine w_mv (pc1 := 35) (st1 := [.ref r1_0]) rfl rfl rfl ?_
        refine w_mv (pc1 := 36) (st1 := [.ref x0, .ref r1_0]) rfl rfl rfl ?_
        refine w_mv (pc1 := 37) (st1 := [.int (i1_1 - 1), .ref x0, .ref r1_0]) rfl rfl rfl ?_
        refine w_mv (pc1 := 38) (st1 := [.int (i1_1 - 1), .ref x0, .int (i1_1 - 1), .ref r1_0]) rfl rfl rfl ?_
        refine cw_pf (c1 := .inr (.inl (13, [.ref r1_0, .int (i1_1 - 1), .int (i1_2 + 1)]))) (pc1 := 41) rfl (by omega) (by omega) g8 rfl rfl rfl rfl ?_
        rw [va_uu]
        have g10 : (va_up G x0 (.inr (.inl (13, [.ref r1_0, .int (i1_1 - 1), .int (i1_2 + 1)])))) r1_0 = .inl (4, (n4, .inr (.inr (.inr (.inr f4))))) := (va_ne (ne_ao g7 g8)).trans ((va_ne (ne_ao g7 g8)).symm.trans g7)
        have g11 : (va_up G x0 (.inr (.inl (13, [.ref r1_0, .int (i1_1 - 1), .int (i1_2 + 1)])))) x0 = .inr (.inl (13, [.ref r1_0, .int (i1_1 - 1), .int (i1_2 + 1)])) := up_eq
        refine w_mv (pc1 := 42) (st1 := [.null, .int (i1_1 - 1), .ref r1_0]) rfl rfl rfl ?_
        obtain ⟨q12a, hh⟩ := hh
        obtain ⟨q13a, q13b, hh⟩ := hh
        refine cw_asN (pc1 := 43) rfl (by omega) (by omega) g10 rfl q13a q13b rfl ?_
        have g14 : (va_up (va_up G x0 (.inr (.inl (13, [.ref r1_0, .int (i1_1 - 1), .int (i1_2 + 1)])))) r1_0 (.inl (4, (n4, .inr (.inr (.inr (.inr (va_up f4 (i1_1 - 1).toNatClampNeg none)))))))) x0 = .inr (.inl (13, [.ref r1_0, .int (i1_1 - 1), .int (i1_2 + 1)])) := (va_ne (ne_oa g11 g10)).trans g11
        have g15 : (va_up (va_up G x0 (.inr (.inl (13, [.ref r1_0, .int (i1_1 - 1), .int (i1_2 + 1)])))) r1_0 (.inl (4, (n4, .inr (.inr (.inr (.inr (va_up f4 (i1_1 - 1).toNatClampNeg none)))))))) r1_0 = .inl (4, (n4, .inr (.inr (.inr (.inr (va_up f4 (i1_1 - 1).toNatClampNeg none)))))) := up_eq
        refine w_vret (pc1 := 24) rfl rfl rfl ?_
        refine w_mv (pc1 := 25) (st1 := [.ref x6]) rfl rfl rfl ?_
        refine sx_wp.stop rfl rfl rfl ?_
        exact c_acc (hP _ _ _ _ _ hh) (by omega) (by omega)
      ·
        replace hh := hh.2 (Int.not_le.mp h9)
        refine w_ile_F (pc1 := 22) rfl (by decide) rfl (show p1.toInt < (i1_1 - 1).toInt from (Int.not_le.mp h9)) ?_
        refine w_mv (pc1 := 23) (st1 := [.ref r1_0]) rfl rfl rfl ?_
        refine w_mv (pc1 := 24) (st1 := [.int p1, .ref r1_0]) rfl rfl rfl ?_
        refine w_mv (pc1 := 25) (st1 := [.int 1, .int p1, .ref r1_0]) rfl rfl rfl ?_
        refine w_mv (pc1 := 26) (st1 := [.int (p1 + 1), .ref r1_0]) rfl rfl rfl ?_
        refine w_mv (pc1 := 27) (st1 := [.ref r1_0, .int (p1 + 1), .ref r1_0]) rfl rfl rfl ?_
        refine w_mv (pc1 := 28) (st1 := [.int p1, .ref r1_0, .int (p1 + 1), .ref r1_0]) rfl rfl rfl ?_
        refine w_mv (pc1 := 29) (st1 := [.int (i1_1 - 1), .int p1, .ref r1_0, .int (p1 + 1), .ref r1_0]) rfl rfl rfl ?_
        refine w_mv (pc1 := 30) (st1 := [.int p1, .int (i1_1 - 1), .int p1, .ref r1_0, .int (p1 + 1), .ref r1_0]) rfl rfl rfl ?_
        refine w_mv (pc1 := 31) (st1 := [.int (i1_1 - 1 - p1), .int p1, .ref r1_0, .int (p1 + 1), .ref r1_0]) rfl rfl rfl ?_
        obtain ⟨q16a, hh⟩ := hh
        obtain ⟨q17a, hh⟩ := hh
        refine cw_cpq (sp := (p1 + 1)) (dp := p1) (n := (i1_1 - 1 - p1)) (pc1 := 34) rfl (by omega) (by omega) g7 (by omega) (by omega) g7 (by omega) (Nat.le_of_ble_eq_true rfl) q17a rfl ?_
        have g18 : (va_up (va_up G x0 (.inr (.inl (13, [.ref r1_0, .int i1_1, .int (i1_2 + 1)])))) r1_0 (.inl (4, (n4, .inr (.inr (.inr (.inr (va_cpy f4 f4 (p1 + 1).toNatClampNeg p1.toNatClampNeg (i1_1 - 1 - p1).toNatClampNeg)))))))) x0 = .inr (.inl (13, [.ref r1_0, .int i1_1, .int (i1_2 + 1)])) := (va_ne (ne_oa g8 g7)).trans g8
        have g19 : (va_up (va_up G x0 (.inr (.inl (13, [.ref r1_0, .int i1_1, .int (i1_2 + 1)])))) r1_0 (.inl (4, (n4, .inr (.inr (.inr (.inr (va_cpy f4 f4 (p1 + 1).toNatClampNeg p1.toNatClampNeg (i1_1 - 1 - p1).toNatClampNeg)))))))) r1_0 = .inl (4, (n4, .inr (.inr (.inr (.inr (va_cpy f4 f4 (p1 + 1).toNatClampNeg p1.toNatClampNeg (i1_1 - 1 - p1).toNatClampNeg)))))) := up_eq
        refine w_mv (pc1 := 35) (st1 := [.ref r1_0]) rfl rfl rfl ?_
        refine w_mv (pc1 := 36) (st1 := [.ref x0, .ref r1_0]) rfl rfl rfl ?_
        refine w_mv (pc1 := 37) (st1 := [.int (i1_1 - 1), .ref x0, .ref r1_0]) rfl rfl rfl ?_
        refine w_mv (pc1 := 38) (st1 := [.int (i1_1 - 1), .ref x0, .int (i1_1 - 1), .ref r1_0]) rfl rfl rfl ?_
        refine cw_pf (c1 := .inr (.inl (13, [.ref r1_0, .int (i1_1 - 1), .int (i1_2 + 1)]))) (pc1 := 41) rfl (by omega) (by omega) g18 rfl rfl rfl rfl ?_
        have g20 : (va_up (va_up (va_up G x0 (.inr (.inl (13, [.ref r1_0, .int i1_1, .int (i1_2 + 1)])))) r1_0 (.inl (4, (n4, .inr (.inr (.inr (.inr (va_cpy f4 f4 (p1 + 1).toNatClampNeg p1.toNatClampNeg (i1_1 - 1 - p1).toNatClampNeg)))))))) x0 (.inr (.inl (13, [.ref r1_0, .int (i1_1 - 1), .int (i1_2 + 1)])))) r1_0 = .inl (4, (n4, .inr (.inr (.inr (.inr (va_cpy f4 f4 (p1 + 1).toNatClampNeg p1.toNatClampNeg (i1_1 - 1 - p1).toNatClampNeg)))))) := (va_ne (ne_ao g19 g18)).trans g19
        have g21 : (va_up (va_up (va_up G x0 (.inr (.inl (13, [.ref r1_0, .int i1_1, .int (i1_2 + 1)])))) r1_0 (.inl (4, (n4, .inr (.inr (.inr (.inr (va_cpy f4 f4 (p1 + 1).toNatClampNeg p1.toNatClampNeg (i1_1 - 1 - p1).toNatClampNeg)))))))) x0 (.inr (.inl (13, [.ref r1_0, .int (i1_1 - 1), .int (i1_2 + 1)])))) x0 = .inr (.inl (13, [.ref r1_0, .int (i1_1 - 1), .int (i1_2 + 1)])) := up_eq
        refine w_mv (pc1 := 42) (st1 := [.null, .int (i1_1 - 1), .ref r1_0]) rfl rfl rfl ?_
        obtain ⟨q22a, q22b, hh⟩ := hh
        refine cw_asN (pc1 := 43) rfl (by omega) (by omega) g20 rfl q22a q22b rfl ?_
        have g23 : (va_up (va_up (va_up (va_up G x0 (.inr (.inl (13, [.ref r1_0, .int i1_1, .int (i1_2 + 1)])))) r1_0 (.inl (4, (n4, .inr (.inr (.inr (.inr (va_cpy f4 f4 (p1 + 1).toNatClampNeg p1.toNatClampNeg (i1_1 - 1 - p1).toNatClampNeg)))))))) x0 (.inr (.inl (13, [.ref r1_0, .int (i1_1 - 1), .int (i1_2 + 1)])))) r1_0 (.inl (4, (n4, .inr (.inr (.inr (.inr (va_up (va_cpy f4 f4 (p1 + 1).toNatClampNeg p1.toNatClampNeg (i1_1 - 1 - p1).toNatClampNeg) (i1_1 - 1).toNatClampNeg none)))))))) x0 = .inr (.inl (13, [.ref r1_0, .int (i1_1 - 1), .int (i1_2 + 1)])) := (va_ne (ne_oa g21 g20)).trans g21
        have g24 : (va_up (va_up (va_up (va_up G x0 (.inr (.inl (13, [.ref r1_0, .int i1_1, .int (i1_2 + 1)])))) r1_0 (.inl (4, (n4, .inr (.inr (.inr (.inr (va_cpy f4 f4 (p1 + 1).toNatClampNeg p1.toNatClampNeg (i1_1 - 1 - p1).toNatClampNeg)))))))) x0 (.inr (.inl (13, [.ref r1_0, .int (i1_1 - 1), .int (i1_2 + 1)])))) r1_0 (.inl (4, (n4, .inr (.inr (.inr (.inr (va_up (va_cpy f4 f4 (p1 + 1).toNatClampNeg p1.toNatClampNeg (i1_1 - 1 - p1).toNatClampNeg) (i1_1 - 1).toNatClampNeg none)))))))) r1_0 = .inl (4, (n4, .inr (.inr (.inr (.inr (va_up (va_cpy f4 f4 (p1 + 1).toNatClampNeg p1.toNatClampNeg (i1_1 - 1 - p1).toNatClampNeg) (i1_1 - 1).toNatClampNeg none)))))) := up_eq
        refine w_vret (pc1 := 24) rfl rfl rfl ?_
        refine w_mv (pc1 := 25) (st1 := [.ref x6]) rfl rfl rfl ?_
        refine sx_wp.stop rfl rfl rfl ?_
        exact c_acc (hP _ _ _ _ _ hh) (by omega) (by omega)
    ·
      replace hh := hh.2 (Int.not_lt.mp h3)
      refine w_ilt_F (pc1 := 9) rfl (by decide) rfl (show i1_1.toInt ≤ p1.toInt from (Int.not_lt.mp h3)) ?_
      refine w_mv (pc1 := 10) (st1 := [.null]) rfl rfl rfl ?_
      refine w_mv (pc1 := 11) (st1 := [.int p1, .null]) rfl rfl rfl ?_
      refine w_mv (pc1 := 12) (st1 := [.int i1_1, .int p1, .null]) rfl rfl rfl ?_
      exact hh.elim
set_option maxRecDepth 20000 in
set_option maxHeartbeats 4000000 in
theorem k_181_0 {x0 : Nat} {p1 : Int32} {N : Nat} {G : Nat → sx_C} {K : Option Value ⊕ Nat → Nat → (Nat → sx_C) → Nat → Nat → Prop} (hh : 5 ≤ x0 ∧ x0 < N ∧ ∃ (r1_0 : Nat) (i1_1 : Int32) (i1_2 : Int32) (i1_3 : Int32), G x0 = .inr (.inl (14, [.ref r1_0, .int i1_1, .int i1_2, .int i1_3])) ∧ ((0 ≤ p1.toInt → cT (4) sM_183 0 [(0, .ref x0), (1, .int p1)] [] (N) G (fun r3 N3 G3 kc3 ks3 => r3 = .inl none ∧ 5 ≤ x0 ∧ x0 < N3 ∧ ∃ (r4_0 : Nat) (i4_1 : Int32) (i4_2 : Int32) (i4_3 : Int32), G3 x0 = .inr (.inl (14, [.ref r4_0, .int i4_1, .int i4_2, .int i4_3])) ∧ ((p1.toInt ≤ i4_3.toInt → ((i4_3.toInt ≤ p1.toInt → K (.inl none) (N3) (va_up G3 x0 (.inr (.inl (14, [.ref r4_0, .int i4_1, .int i4_2, .int p1])))) (kc3) (ks3)) ∧ (p1.toInt < i4_3.toInt → K (.inl none) (N3) (va_up G3 x0 (.inr (.inl (14, [.ref r4_0, .int i4_1, .int 1, .int p1])))) (kc3) (ks3)))) ∧ (i4_3.toInt < p1.toInt → ((i4_1.toInt ≠ 0 → False) ∧ (i4_1.toInt = 0 → cT (9) sM_187 0 [(0, .ref r4_0), (1, .int i4_3), (2, .int p1)] [] (N3) G3 (fun r11 N11 G11 kc11 ks11 => r11 = .inl none ∧ 5 ≤ x0 ∧ x0 < N11 ∧ ∃ (r12_0 : Nat) (i12_1 : Int32) (i12_2 : Int32) (i12_3 : Int32), G11 x0 = .inr (.inl (14, [.ref r12_0, .int i12_1, .int i12_2, .int i12_3])) ∧ K (.inl none) (N11) (va_up G11 x0 (.inr (.inl (14, [.ref r12_0, .int i12_1, .int i12_2, .int p1])))) (kc3 + kc11) (ks3 + ks11)))))))) ∧ (p1.toInt < 0 → False))) : cT (11) sM_181 0 [(0, .ref x0), (1, .int p1)] [] N G K := by
  intro d dc ds P hP
  refine w_mv (pc1 := 1) (st1 := [.ref x0]) rfl rfl rfl ?_
  refine w_mv (pc1 := 2) (st1 := [.int p1, .ref x0]) rfl rfl rfl ?_
  obtain ⟨b1a, b1b, r1_0, i1_1, i1_2, i1_3, g1, hh⟩ := hh
  refine w_call (M' := sM_182) (vals := [.ref x0, .int p1]) (rest := []) (lv' := [(0, .ref x0), (1, .int p1)]) rfl rfl rfl rfl rfl rfl (cH_rcvS (by omega) (by omega) g1 rfl) rfl rfl rfl ?_
  refine w_mv (pc1 := 1) (st1 := [.int p1]) rfl rfl rfl ?_
  by_cases h2 : 0 ≤ p1.toInt
  ·
    replace hh := hh.1 h2
    refine w_zge_T (pc1 := 13) rfl rfl (show 0 ≤ p1.toInt from h2) ?_
    refine w_mv (pc1 := 14) (st1 := [.ref x0]) rfl rfl rfl ?_
    refine w_mv (pc1 := 15) (st1 := [.int p1, .ref x0]) rfl rfl rfl ?_
    refine w_call (M' := sM_183) (vals := [.ref x0, .int p1]) (rest := []) (lv' := [(0, .ref x0), (1, .int p1)]) rfl rfl rfl rfl rfl rfl (cH_rcv (by omega) (by omega) g1) rfl rfl rfl ?_
    refine hh _ _ _ _ (fun r3 N3 G3 kc3 ks3 hh => ?_)
    obtain ⟨er3, hh⟩ := hh
    subst er3
    refine w_kv (pc1 := 18) rfl ?_
    refine w_mv (pc1 := 19) (st1 := [.ref x0]) rfl rfl rfl ?_
    obtain ⟨b4a, b4b, r4_0, i4_1, i4_2, i4_3, g4, hh⟩ := hh
    refine cw_gf (v := .int i4_3) (pc1 := 22) rfl (by omega) (by omega) g4 rfl rfl ?_
    refine w_mv (pc1 := 23) (st1 := [.int p1, .int i4_3]) rfl rfl rfl ?_
    by_cases h5 : p1.toInt ≤ i4_3.toInt
    ·
      replace hh := hh.1 h5
      refine w_ige_T (pc1 := 63) rfl rfl (show p1.toInt ≤ i4_3.toInt from h5) ?_
      refine w_mv (pc1 := 64) (st1 := [.ref x0]) rfl rfl rfl ?_
      refine cw_gf (v := .int i4_3) (pc1 := 67) rfl (by omega) (by omega) g4 rfl rfl ?_
      refine w_mv (pc1 := 68) (st1 := [.int p1, .int i4_3]) rfl rfl rfl ?_
      by_cases h6 : i4_3.toInt ≤ p1.toInt
      ·
        replace hh := hh.1 h6
        refine w_ile_T (pc1 := 76) rfl rfl (show i4_3.toInt ≤ p1.toInt from h6) ?_
        refine w_mv (pc1 := 77) (st1 := [.ref x0]) rfl rfl rfl ?_
        refine w_mv (pc1 := 78) (st1 := [.int p1, .ref x0]) rfl rfl rfl ?_
        refine cw_pf (c1 := .inr (.inl (14, [.ref r4_0, .int i4_1, .int i4_2, .int p1]))) (pc1 := 81) rfl (by omega) (by omega) g4 rfl rfl rfl rfl ?_
        have g7 : (va_up G3 x0 (.inr (.inl (14, [.ref r4_0, .int i4_1, .int i4_2, .int p1])))) x0 = .inr (.inl (14, [.ref r4_0, .int i4_1, .int i4_2, .int p1])) := up_eq
        refine w_vret (pc1 := 5) rfl rfl rfl ?_
        refine sx_wp.stop rfl rfl rfl ?_
        exact c_acc (hP _ _ _ _ _ hh) (by omega) (by omega)
      ·
        replace hh := hh.2 (Int.not_le.mp h6)
        refine w_ile_F (pc1 := 71) rfl (by decide) rfl (show p1.toInt < i4_3.toInt from (Int.not_le.mp h6)) ?_
        refine w_mv (pc1 := 72) (st1 := [.ref x0]) rfl rfl rfl ?_
        refine w_mv (pc1 := 73) (st1 := [.int 1, .ref x0]) rfl rfl rfl ?_
        refine cw_pf (c1 := .inr (.inl (14, [.ref r4_0, .int i4_1, .int 1, .int i4_3]))) (pc1 := 76) rfl (by omega) (by omega) g4 rfl rfl rfl rfl ?_
        have g8 : (va_up G3 x0 (.inr (.inl (14, [.ref r4_0, .int i4_1, .int 1, .int i4_3])))) x0 = .inr (.inl (14, [.ref r4_0, .int i4_1, .int 1, .int i4_3])) := up_eq
        refine w_mv (pc1 := 77) (st1 := [.ref x0]) rfl rfl rfl ?_
        refine w_mv (pc1 := 78) (st1 := [.int p1, .ref x0]) rfl rfl rfl ?_
        refine cw_pf (c1 := .inr (.inl (14, [.ref r4_0, .int i4_1, .int 1, .int p1]))) (pc1 := 81) rfl (by omega) (by omega) g8 rfl rfl rfl rfl ?_
        rw [va_uu]
        have g9 : (va_up G3 x0 (.inr (.inl (14, [.ref r4_0, .int i4_1, .int 1, .int p1])))) x0 = .inr (.inl (14, [.ref r4_0, .int i4_1, .int 1, .int p1])) := up_eq
        refine w_vret (pc1 := 5) rfl rfl rfl ?_
        refine sx_wp.stop rfl rfl rfl ?_
        exact c_acc (hP _ _ _ _ _ hh) (by omega) (by omega)
    ·
      replace hh := hh.2 (Int.not_le.mp h5)
      refine w_ige_F (pc1 := 26) rfl (by decide) rfl (show i4_3.toInt < p1.toInt from (Int.not_le.mp h5)) ?_
      refine w_mv (pc1 := 27) (st1 := [.ref x0]) rfl rfl rfl ?_
      refine w_call (M' := sM_186) (vals := [.ref x0]) (rest := []) (lv' := [(0, .ref x0)]) rfl rfl rfl rfl rfl rfl (cH_rcv (by omega) (by omega) g4) rfl rfl rfl ?_
      refine w_mv (pc1 := 3) (st1 := [.int 1]) rfl rfl rfl ?_
      refine w_mv (pc1 := 6) (st1 := []) rfl rfl rfl ?_
      refine w_mv (pc1 := 7) (st1 := [.ref x0]) rfl rfl rfl ?_
      refine cw_gf (v := .int i4_1) (pc1 := 10) rfl (by omega) (by omega) g4 rfl rfl ?_
      by_cases h10 : i4_1.toInt = 0
      ·
        replace hh := hh.2 h10
        refine w_zne_F (pc1 := 13) rfl (by decide) rfl (show i4_1.toInt = 0 from h10) ?_
        refine w_mv (pc1 := 14) (st1 := [.int 1]) rfl rfl rfl ?_
        refine w_mv (pc1 := 18) (st1 := [.int 1]) rfl rfl rfl ?_
        refine w_iret (pc1 := 30) rfl rfl rfl rfl ?_
        refine w_mv (pc1 := 33) (st1 := []) rfl rfl rfl ?_
        refine w_mv (pc1 := 34) (st1 := [.ref x0]) rfl rfl rfl ?_
        refine cw_gf (v := .ref r4_0) (pc1 := 37) rfl (by omega) (by omega) g4 rfl rfl ?_
        refine w_mv (pc1 := 38) (st1 := [.ref x0, .ref r4_0]) rfl rfl rfl ?_
        refine cw_gf (v := .int i4_3) (pc1 := 41) rfl (by omega) (by omega) g4 rfl rfl ?_
        refine w_mv (pc1 := 42) (st1 := [.int p1, .int i4_3, .ref r4_0]) rfl rfl rfl ?_
        refine w_call (M' := sM_187) (vals := [.ref r4_0, .int i4_3, .int p1]) (rest := []) (lv' := [(0, .ref r4_0), (1, .int i4_3), (2, .int p1)]) rfl rfl rfl rfl rfl rfl rfl rfl rfl rfl ?_
        refine hh _ _ _ _ (fun r11 N11 G11 kc11 ks11 hh => ?_)
        obtain ⟨er11, hh⟩ := hh
        subst er11
        refine w_kv (pc1 := 45) rfl ?_
        refine w_mv (pc1 := 76) (st1 := []) rfl rfl rfl ?_
        refine w_mv (pc1 := 77) (st1 := [.ref x0]) rfl rfl rfl ?_
        refine w_mv (pc1 := 78) (st1 := [.int p1, .ref x0]) rfl rfl rfl ?_
        obtain ⟨b12a, b12b, r12_0, i12_1, i12_2, i12_3, g12, hh⟩ := hh
        refine cw_pf (c1 := .inr (.inl (14, [.ref r12_0, .int i12_1, .int i12_2, .int p1]))) (pc1 := 81) rfl (by omega) (by omega) g12 rfl rfl rfl rfl ?_
        have g13 : (va_up G11 x0 (.inr (.inl (14, [.ref r12_0, .int i12_1, .int i12_2, .int p1])))) x0 = .inr (.inl (14, [.ref r12_0, .int i12_1, .int i12_2, .int p1])) := up_eq
        refine w_vret (pc1 := 5) rfl rfl rfl ?_
        refine sx_wp.stop rfl rfl rfl ?_
        exact c_acc (hP _ _ _ _ _ hh) (by omega) (by omega)
      ·
        replace hh := hh.1 h10
        refine w_zne_T (pc1 := 17) rfl rfl (show i4_1.toInt ≠ 0 from h10) ?_
        refine w_mv (pc1 := 18) (st1 := [.int 0]) rfl rfl rfl ?_
        refine w_iret (pc1 := 30) rfl rfl rfl rfl ?_
        refine w_mv (pc1 := 48) (st1 := []) rfl rfl rfl ?_
        refine w_mv (pc1 := 49) (st1 := [.ref x0]) rfl rfl rfl ?_
        refine cw_gf (v := .ref r4_0) (pc1 := 52) rfl (by omega) (by omega) g4 rfl rfl ?_
        refine w_mv (pc1 := 53) (st1 := [.ref x0, .ref r4_0]) rfl rfl rfl ?_
        refine cw_gf (v := .int i4_3) (pc1 := 56) rfl (by omega) (by omega) g4 rfl rfl ?_
        refine w_mv (pc1 := 57) (st1 := [.int p1, .int i4_3, .ref r4_0]) rfl rfl rfl ?_
        exact hh.elim
  ·
    replace hh := hh.2 (Int.not_le.mp h2)
    refine w_zge_F (pc1 := 4) rfl (by decide) rfl (show p1.toInt < 0 from (Int.not_le.mp h2)) ?_
    exact hh.elim
set_option maxRecDepth 20000 in
set_option maxHeartbeats 4000000 in
theorem k_183_0 {x0 : Nat} {p1 : Int32} {N : Nat} {G : Nat → sx_C} {K : Option Value ⊕ Nat → Nat → (Nat → sx_C) → Nat → Nat → Prop} (hh : 5 ≤ x0 ∧ x0 < N ∧ ∃ (r1_0 : Nat) (i1_1 : Int32) (i1_2 : Int32) (i1_3 : Int32), G x0 = .inr (.inl (14, [.ref r1_0, .int i1_1, .int i1_2, .int i1_3])) ∧ 5 ≤ r1_0 ∧ r1_0 < N ∧ ∃ (n2 : Nat) (f2 : Nat → Int32), G r1_0 = .inl (1, (n2, .inl f2)) ∧ (((p1 - (c_shr (Int32.ofNat n2) i1_1)).toInt ≤ 0 → K (.inl none) (N) G (0) (0)) ∧ (0 < (p1 - (c_shr (Int32.ofNat n2) i1_1)).toInt → (((c_shl p1 i1_1 - Int32.ofNat n2).toInt < (Int32.ofNat n2 + c_shl 2 i1_1).toInt → (((Int32.ofNat n2 + (Int32.ofNat n2 + c_shl 2 i1_1)).toInt ≤ 0 → False) ∧ (0 < (Int32.ofNat n2 + (Int32.ofNat n2 + c_shl 2 i1_1)).toInt → ((2147483639 < (Int32.ofNat n2 + (Int32.ofNat n2 + c_shl 2 i1_1)).toInt → False) ∧ ((Int32.ofNat n2 + (Int32.ofNat n2 + c_shl 2 i1_1)).toInt ≤ 2147483639 → (((Int32.ofNat n2 + (Int32.ofNat n2 + c_shl 2 i1_1)).toInt ≠ 2147483647 → (((c_shl (c_shr (Int32.ofNat n2 + (Int32.ofNat n2 + c_shl 2 i1_1)) i1_1) i1_1).toInt ≠ (Int32.ofNat n2).toInt → 5 ≤ N ∧ ∃ n10 : Nat, 0 ≤ (c_shl (c_shr (Int32.ofNat n2 + (Int32.ofNat n2 + c_shl 2 i1_1)) i1_1) i1_1).toInt ∧ (c_shl (c_shr (Int32.ofNat n2 + (Int32.ofNat n2 + c_shl 2 i1_1)) i1_1) i1_1).toNatClampNeg = n10 ∧ n10 ≤ 100000 ∧ (((c_shl (c_shr (Int32.ofNat n2 + (Int32.ofNat n2 + c_shl 2 i1_1)) i1_1) i1_1).toInt < (Int32.ofNat n2).toInt → (0 ≤ (0 : Int32).toInt ∧ 0 ≤ (0 : Int32).toInt ∧ 0 ≤ (c_shl (c_shr (Int32.ofNat n2 + (Int32.ofNat n2 + c_shl 2 i1_1)) i1_1) i1_1).toInt ∧ (0 : Int32).toInt + (c_shl (c_shr (Int32.ofNat n2 + (Int32.ofNat n2 + c_shl 2 i1_1)) i1_1) i1_1).toInt ≤ ((n2 : Nat) : Int) ∧ (0 : Int32).toInt + (c_shl (c_shr (Int32.ofNat n2 + (Int32.ofNat n2 + c_shl 2 i1_1)) i1_1) i1_1).toInt ≤ ((n10 : Nat) : Int) ∧ ∀ i, i < (c_shl (c_shr (Int32.ofNat n2 + (Int32.ofNat n2 + c_shl 2 i1_1)) i1_1) i1_1).toNatClampNeg → sx_fit .byte (.int (f2 ((0 : Int32).toNatClampNeg + i))) = true) ∧ K (.inl none) (N + 1) (va_up (va_up (va_up G N (.inl (1, (n10, .inl (fun _ => 0))))) N (.inl (1, (n10, .inl (va_cpy f2 (fun _ => 0) (0 : Int32).toNatClampNeg (0 : Int32).toNatClampNeg (c_shl (c_shr (Int32.ofNat n2 + (Int32.ofNat n2 + c_shl 2 i1_1)) i1_1) i1_1).toNatClampNeg))))) x0 (.inr (.inl (14, [.ref N, .int i1_1, .int i1_2, .int i1_3])))) (1) (n10)) ∧ ((Int32.ofNat n2).toInt ≤ (c_shl (c_shr (Int32.ofNat n2 + (Int32.ofNat n2 + c_shl 2 i1_1)) i1_1) i1_1).toInt → (0 ≤ (0 : Int32).toInt ∧ 0 ≤ (0 : Int32).toInt ∧ 0 ≤ (Int32.ofNat n2).toInt ∧ (0 : Int32).toInt + (Int32.ofNat n2).toInt ≤ ((n2 : Nat) : Int) ∧ (0 : Int32).toInt + (Int32.ofNat n2).toInt ≤ ((n10 : Nat) : Int) ∧ ∀ i, i < (Int32.ofNat n2).toNatClampNeg → sx_fit .byte (.int (f2 ((0 : Int32).toNatClampNeg + i))) = true) ∧ K (.inl none) (N + 1) (va_up (va_up (va_up G N (.inl (1, (n10, .inl (fun _ => 0))))) N (.inl (1, (n10, .inl (va_cpy f2 (fun _ => 0) (0 : Int32).toNatClampNeg (0 : Int32).toNatClampNeg (Int32.ofNat n2).toNatClampNeg))))) x0 (.inr (.inl (14, [.ref N, .int i1_1, .int i1_2, .int i1_3])))) (1) (n10)))) ∧ ((c_shl (c_shr (Int32.ofNat n2 + (Int32.ofNat n2 + c_shl 2 i1_1)) i1_1) i1_1).toInt = (Int32.ofNat n2).toInt → False))) ∧ ((Int32.ofNat n2 + (Int32.ofNat n2 + c_shl 2 i1_1)).toInt = 2147483647 → False))))))) ∧ ((Int32.ofNat n2 + c_shl 2 i1_1).toInt ≤ (c_shl p1 i1_1 - Int32.ofNat n2).toInt → (((Int32.ofNat n2 + (c_shl p1 i1_1 - Int32.ofNat n2)).toInt ≤ 0 → False) ∧ (0 < (Int32.ofNat n2 + (c_shl p1 i1_1 - Int32.ofNat n2)).toInt → ((2147483639 < (Int32.ofNat n2 + (c_shl p1 i1_1 - Int32.ofNat n2)).toInt → False) ∧ ((Int32.ofNat n2 + (c_shl p1 i1_1 - Int32.ofNat n2)).toInt ≤ 2147483639 → (((Int32.ofNat n2 + (c_shl p1 i1_1 - Int32.ofNat n2)).toInt ≠ 2147483647 → (((c_shl (c_shr (Int32.ofNat n2 + (c_shl p1 i1_1 - Int32.ofNat n2)) i1_1) i1_1).toInt ≠ (Int32.ofNat n2).toInt → 5 ≤ N ∧ ∃ n30 : Nat, 0 ≤ (c_shl (c_shr (Int32.ofNat n2 + (c_shl p1 i1_1 - Int32.ofNat n2)) i1_1) i1_1).toInt ∧ (c_shl (c_shr (Int32.ofNat n2 + (c_shl p1 i1_1 - Int32.ofNat n2)) i1_1) i1_1).toNatClampNeg = n30 ∧ n30 ≤ 100000 ∧ (((c_shl (c_shr (Int32.ofNat n2 + (c_shl p1 i1_1 - Int32.ofNat n2)) i1_1) i1_1).toInt < (Int32.ofNat n2).toInt → (0 ≤ (0 : Int32).toInt ∧ 0 ≤ (0 : Int32).toInt ∧ 0 ≤ (c_shl (c_shr (Int32.ofNat n2 + (c_shl p1 i1_1 - Int32.ofNat n2)) i1_1) i1_1).toInt ∧ (0 : Int32).toInt + (c_shl (c_shr (Int32.ofNat n2 + (c_shl p1 i1_1 - Int32.ofNat n2)) i1_1) i1_1).toInt ≤ ((n2 : Nat) : Int) ∧ (0 : Int32).toInt + (c_shl (c_shr (Int32.ofNat n2 + (c_shl p1 i1_1 - Int32.ofNat n2)) i1_1) i1_1).toInt ≤ ((n30 : Nat) : Int) ∧ ∀ i, i < (c_shl (c_shr (Int32.ofNat n2 + (c_shl p1 i1_1 - Int32.ofNat n2)) i1_1) i1_1).toNatClampNeg → sx_fit .byte (.int (f2 ((0 : Int32).toNatClampNeg + i))) = true) ∧ K (.inl none) (N + 1) (va_up (va_up (va_up G N (.inl (1, (n30, .inl (fun _ => 0))))) N (.inl (1, (n30, .inl (va_cpy f2 (fun _ => 0) (0 : Int32).toNatClampNeg (0 : Int32).toNatClampNeg (c_shl (c_shr (Int32.ofNat n2 + (c_shl p1 i1_1 - Int32.ofNat n2)) i1_1) i1_1).toNatClampNeg))))) x0 (.inr (.inl (14, [.ref N, .int i1_1, .int i1_2, .int i1_3])))) (1) (n30)) ∧ ((Int32.ofNat n2).toInt ≤ (c_shl (c_shr (Int32.ofNat n2 + (c_shl p1 i1_1 - Int32.ofNat n2)) i1_1) i1_1).toInt → (0 ≤ (0 : Int32).toInt ∧ 0 ≤ (0 : Int32).toInt ∧ 0 ≤ (Int32.ofNat n2).toInt ∧ (0 : Int32).toInt + (Int32.ofNat n2).toInt ≤ ((n2 : Nat) : Int) ∧ (0 : Int32).toInt + (Int32.ofNat n2).toInt ≤ ((n30 : Nat) : Int) ∧ ∀ i, i < (Int32.ofNat n2).toNatClampNeg → sx_fit .byte (.int (f2 ((0 : Int32).toNatClampNeg + i))) = true) ∧ K (.inl none) (N + 1) (va_up (va_up (va_up G N (.inl (1, (n30, .inl (fun _ => 0))))) N (.inl (1, (n30, .inl (va_cpy f2 (fun _ => 0) (0 : Int32).toNatClampNeg (0 : Int32).toNatClampNeg (Int32.ofNat n2).toNatClampNeg))))) x0 (.inr (.inl (14, [.ref N, .int i1_1, .int i1_2, .int i1_3])))) (1) (n30)))) ∧ ((c_shl (c_shr (Int32.ofNat n2 + (c_shl p1 i1_1 - Int32.ofNat n2)) i1_1) i1_1).toInt = (Int32.ofNat n2).toInt → False))) ∧ ((Int32.ofNat n2 + (c_shl p1 i1_1 - Int32.ofNat n2)).toInt = 2147483647 → False))))))))))) : cT (4) sM_183 0 [(0, .ref x0), (1, .int p1)] [] N G K := by
  intro d dc ds P hP
  refine w_mv (pc1 := 1) (st1 := [.ref x0]) rfl rfl rfl ?_
  obtain ⟨b1a, b1b, r1_0, i1_1, i1_2, i1_3, g1, hh⟩ := hh
  refine cw_gf (v := .ref r1_0) (pc1 := 4) rfl (by omega) (by omega) g1 rfl rfl ?_
  obtain ⟨b2a, b2b, n2, f2, g2, hh⟩ := hh
  refine cw_alen (pc1 := 5) rfl (by omega) g2 rfl ?_
  refine w_mv (pc1 := 6) (st1 := [.ref x0, .int (Int32.ofNat n2)]) rfl rfl rfl ?_
  refine cw_gf (v := .int i1_1) (pc1 := 9) rfl (by omega) (by omega) g1 rfl rfl ?_
  refine w_mv (pc1 := 10) (st1 := [.int (c_shr (Int32.ofNat n2) i1_1)]) rfl rfl rfl ?_
  refine w_mv (pc1 := 11) (lv1 := [(2, .int (c_shr (Int32.ofNat n2) i1_1)), (0, .ref x0), (1, .int p1)]) (st1 := []) rfl rfl rfl ?_
  refine w_mv (pc1 := 12) (st1 := [.int p1]) rfl rfl rfl ?_
  refine w_mv (pc1 := 13) (st1 := [.int (c_shr (Int32.ofNat n2) i1_1), .int p1]) rfl rfl rfl ?_
  refine w_mv (pc1 := 14) (st1 := [.int (p1 - (c_shr (Int32.ofNat n2) i1_1))]) rfl rfl rfl ?_
  by_cases h3 : (p1 - (c_shr (Int32.ofNat n2) i1_1)).toInt ≤ 0
  ·
    replace hh := hh.1 h3
    refine w_zle_T (pc1 := 38) rfl rfl (show (p1 - (c_shr (Int32.ofNat n2) i1_1)).toInt ≤ 0 from h3) ?_
    refine sx_wp.stop rfl rfl rfl ?_
    exact c_acc (hP _ _ _ _ _ hh) (by omega) (by omega)
  ·
    replace hh := hh.2 (Int.not_le.mp h3)
    refine w_zle_F (pc1 := 17) rfl (by decide) rfl (show 0 < (p1 - (c_shr (Int32.ofNat n2) i1_1)).toInt from (Int.not_le.mp h3)) ?_
    refine w_mv (pc1 := 18) (st1 := [.ref x0]) rfl rfl rfl ?_
    refine w_mv (pc1 := 19) (st1 := [.ref x0, .ref x0]) rfl rfl rfl ?_
    refine cw_gf (v := .ref r1_0) (pc1 := 22) rfl (by omega) (by omega) g1 rfl rfl ?_
    refine w_mv (pc1 := 23) (st1 := [.ref x0, .ref r1_0, .ref x0]) rfl rfl rfl ?_
    refine w_mv (pc1 := 24) (st1 := [.int p1, .ref x0, .ref r1_0, .ref x0]) rfl rfl rfl ?_
    refine w_call (M' := sM_184) (vals := [.ref x0, .int p1]) (rest := [.ref r1_0, .ref x0]) (lv' := [(0, .ref x0), (1, .int p1)]) rfl rfl rfl rfl rfl rfl (cH_rcv (by omega) (by omega) g1) rfl rfl rfl ?_
    refine w_mv (pc1 := 1) (st1 := [.ref x0]) rfl rfl rfl ?_
    refine cw_gf (v := .ref r1_0) (pc1 := 4) rfl (by omega) (by omega) g1 rfl rfl ?_
    refine cw_alen (pc1 := 5) rfl (by omega) g2 rfl ?_
    refine w_mv (pc1 := 6) (lv1 := [(2, .int (Int32.ofNat n2)), (0, .ref x0), (1, .int p1)]) (st1 := []) rfl rfl rfl ?_
    refine w_mv (pc1 := 7) (st1 := [.int p1]) rfl rfl rfl ?_
    refine w_mv (pc1 := 8) (st1 := [.ref x0, .int p1]) rfl rfl rfl ?_
    refine cw_gf (v := .int i1_1) (pc1 := 11) rfl (by omega) (by omega) g1 rfl rfl ?_
    refine w_mv (pc1 := 12) (st1 := [.int (c_shl p1 i1_1)]) rfl rfl rfl ?_
    refine w_mv (pc1 := 13) (lv1 := [(3, .int (c_shl p1 i1_1)), (2, .int (Int32.ofNat n2)), (0, .ref x0), (1, .int p1)]) (st1 := []) rfl rfl rfl ?_
    refine w_mv (pc1 := 14) (st1 := [.int (c_shl p1 i1_1)]) rfl rfl rfl ?_
    refine w_mv (pc1 := 15) (st1 := [.int (Int32.ofNat n2), .int (c_shl p1 i1_1)]) rfl rfl rfl ?_
    refine w_mv (pc1 := 16) (st1 := [.int (c_shl p1 i1_1 - Int32.ofNat n2)]) rfl rfl rfl ?_
    refine w_mv (pc1 := 18) (lv1 := [(4, .int (c_shl p1 i1_1 - Int32.ofNat n2)), (3, .int (c_shl p1 i1_1)), (2, .int (Int32.ofNat n2)), (0, .ref x0), (1, .int p1)]) (st1 := []) rfl rfl rfl ?_
    refine w_mv (pc1 := 19) (st1 := [.int (Int32.ofNat n2)]) rfl rfl rfl ?_
    refine w_mv (pc1 := 21) (st1 := [.int (c_shl p1 i1_1 - Int32.ofNat n2), .int (Int32.ofNat n2)]) rfl rfl rfl ?_
    refine w_mv (pc1 := 22) (st1 := [.int (Int32.ofNat n2), .int (c_shl p1 i1_1 - Int32.ofNat n2), .int (Int32.ofNat n2)]) rfl rfl rfl ?_
    refine w_mv (pc1 := 23) (st1 := [.int 2, .int (Int32.ofNat n2), .int (c_shl p1 i1_1 - Int32.ofNat n2), .int (Int32.ofNat n2)]) rfl rfl rfl ?_
    refine w_mv (pc1 := 24) (st1 := [.ref x0, .int 2, .int (Int32.ofNat n2), .int (c_shl p1 i1_1 - Int32.ofNat n2), .int (Int32.ofNat n2)]) rfl rfl rfl ?_
    refine cw_gf (v := .int i1_1) (pc1 := 27) rfl (by omega) (by omega) g1 rfl rfl ?_
    refine w_mv (pc1 := 28) (st1 := [.int (c_shl 2 i1_1), .int (Int32.ofNat n2), .int (c_shl p1 i1_1 - Int32.ofNat n2), .int (Int32.ofNat n2)]) rfl rfl rfl ?_
    refine w_mv (pc1 := 29) (st1 := [.int (Int32.ofNat n2 + c_shl 2 i1_1), .int (c_shl p1 i1_1 - Int32.ofNat n2), .int (Int32.ofNat n2)]) rfl rfl rfl ?_
    refine w_call (M' := sM_170) (vals := [.int (Int32.ofNat n2), .int (c_shl p1 i1_1 - Int32.ofNat n2), .int (Int32.ofNat n2 + c_shl 2 i1_1)]) (rest := []) (lv' := [(0, .int (Int32.ofNat n2)), (1, .int (c_shl p1 i1_1 - Int32.ofNat n2)), (2, .int (Int32.ofNat n2 + c_shl 2 i1_1))]) rfl rfl rfl rfl rfl rfl rfl rfl rfl rfl ?_
    refine w_mv (pc1 := 1) (st1 := [.int (Int32.ofNat n2)]) rfl rfl rfl ?_
    refine w_mv (pc1 := 2) (st1 := [.int (c_shl p1 i1_1 - Int32.ofNat n2), .int (Int32.ofNat n2)]) rfl rfl rfl ?_
    refine w_mv (pc1 := 3) (st1 := [.int (Int32.ofNat n2 + c_shl 2 i1_1), .int (c_shl p1 i1_1 - Int32.ofNat n2), .int (Int32.ofNat n2)]) rfl rfl rfl ?_
    refine w_call (M' := sM_171) (vals := [.int (c_shl p1 i1_1 - Int32.ofNat n2), .int (Int32.ofNat n2 + c_shl 2 i1_1)]) (rest := [.int (Int32.ofNat n2)]) (lv' := [(0, .int (c_shl p1 i1_1 - Int32.ofNat n2)), (1, .int (Int32.ofNat n2 + c_shl 2 i1_1))]) rfl rfl rfl rfl rfl rfl rfl rfl rfl rfl ?_
    refine w_mv (pc1 := 1) (st1 := [.int (c_shl p1 i1_1 - Int32.ofNat n2)]) rfl rfl rfl ?_
    refine w_mv (pc1 := 2) (st1 := [.int (Int32.ofNat n2 + c_shl 2 i1_1), .int (c_shl p1 i1_1 - Int32.ofNat n2)]) rfl rfl rfl ?_
    by_cases h4 : (c_shl p1 i1_1 - Int32.ofNat n2).toInt < (Int32.ofNat n2 + c_shl 2 i1_1).toInt
    ·
      replace hh := hh.1 h4
      refine w_ilt_T (pc1 := 9) rfl rfl (show (c_shl p1 i1_1 - Int32.ofNat n2).toInt < (Int32.ofNat n2 + c_shl 2 i1_1).toInt from h4) ?_
      refine w_mv (pc1 := 10) (st1 := [.int (Int32.ofNat n2 + c_shl 2 i1_1)]) rfl rfl rfl ?_
      refine w_iret (pc1 := 6) rfl rfl rfl rfl ?_
      refine w_mv (pc1 := 7) (st1 := [.int (Int32.ofNat n2 + (Int32.ofNat n2 + c_shl 2 i1_1))]) rfl rfl rfl ?_
      refine w_mv (pc1 := 8) (lv1 := [(3, .int (Int32.ofNat n2 + (Int32.ofNat n2 + c_shl 2 i1_1))), (0, .int (Int32.ofNat n2)), (1, .int (c_shl p1 i1_1 - Int32.ofNat n2)), (2, .int (Int32.ofNat n2 + c_shl 2 i1_1))]) (st1 := []) rfl rfl rfl ?_
      refine w_mv (pc1 := 9) (st1 := [.int 0]) rfl rfl rfl ?_
      refine w_mv (pc1 := 10) (st1 := [.int (Int32.ofNat n2 + (Int32.ofNat n2 + c_shl 2 i1_1)), .int 0]) rfl rfl rfl ?_
      by_cases h5 : (Int32.ofNat n2 + (Int32.ofNat n2 + c_shl 2 i1_1)).toInt ≤ 0
      ·
        replace hh := hh.1 h5
        refine w_ige_T (pc1 := 21) rfl rfl (show (Int32.ofNat n2 + (Int32.ofNat n2 + c_shl 2 i1_1)).toInt ≤ 0 from h5) ?_
        refine w_mv (pc1 := 22) (st1 := [.int (Int32.ofNat n2)]) rfl rfl rfl ?_
        refine w_mv (pc1 := 23) (st1 := [.int (c_shl p1 i1_1 - Int32.ofNat n2), .int (Int32.ofNat n2)]) rfl rfl rfl ?_
        exact hh.elim
      ·
        replace hh := hh.2 (Int.not_le.mp h5)
        refine w_ige_F (pc1 := 13) rfl (by decide) rfl (show 0 < (Int32.ofNat n2 + (Int32.ofNat n2 + c_shl 2 i1_1)).toInt from (Int.not_le.mp h5)) ?_
        refine w_mv (pc1 := 14) (st1 := [.int (Int32.ofNat n2 + (Int32.ofNat n2 + c_shl 2 i1_1))]) rfl rfl rfl ?_
        refine w_mv (pc1 := 16) (st1 := [.int 2147483639, .int (Int32.ofNat n2 + (Int32.ofNat n2 + c_shl 2 i1_1))]) rfl rfl rfl ?_
        by_cases h6 : 2147483639 < (Int32.ofNat n2 + (Int32.ofNat n2 + c_shl 2 i1_1)).toInt
        ·
          replace hh := hh.1 h6
          refine w_igt_T (pc1 := 21) rfl rfl (show 2147483639 < (Int32.ofNat n2 + (Int32.ofNat n2 + c_shl 2 i1_1)).toInt from h6) ?_
          refine w_mv (pc1 := 22) (st1 := [.int (Int32.ofNat n2)]) rfl rfl rfl ?_
          refine w_mv (pc1 := 23) (st1 := [.int (c_shl p1 i1_1 - Int32.ofNat n2), .int (Int32.ofNat n2)]) rfl rfl rfl ?_
          exact hh.elim
        ·
          replace hh := hh.2 (Int.not_lt.mp h6)
          refine w_igt_F (pc1 := 19) rfl (by decide) rfl (show (Int32.ofNat n2 + (Int32.ofNat n2 + c_shl 2 i1_1)).toInt ≤ 2147483639 from (Int.not_lt.mp h6)) ?_
          refine w_mv (pc1 := 20) (st1 := [.int (Int32.ofNat n2 + (Int32.ofNat n2 + c_shl 2 i1_1))]) rfl rfl rfl ?_
          refine w_iret (pc1 := 32) rfl rfl rfl rfl ?_
          refine w_mv (pc1 := 34) (lv1 := [(5, .int (Int32.ofNat n2 + (Int32.ofNat n2 + c_shl 2 i1_1))), (4, .int (c_shl p1 i1_1 - Int32.ofNat n2)), (3, .int (c_shl p1 i1_1)), (2, .int (Int32.ofNat n2)), (0, .ref x0), (1, .int p1)]) (st1 := []) rfl rfl rfl ?_
          refine w_mv (pc1 := 36) (st1 := [.int (Int32.ofNat n2 + (Int32.ofNat n2 + c_shl 2 i1_1))]) rfl rfl rfl ?_
          refine w_mv (pc1 := 38) (st1 := [.int 2147483647, .int (Int32.ofNat n2 + (Int32.ofNat n2 + c_shl 2 i1_1))]) rfl rfl rfl ?_
          by_cases h7 : (Int32.ofNat n2 + (Int32.ofNat n2 + c_shl 2 i1_1)).toInt = 2147483647
          ·
            replace hh := hh.2 h7
            refine w_ine_F (pc1 := 41) rfl (by decide) rfl (show (Int32.ofNat n2 + (Int32.ofNat n2 + c_shl 2 i1_1)).toInt = 2147483647 from h7) ?_
            exact hh.elim
          ·
            replace hh := hh.1 h7
            refine w_ine_T (pc1 := 51) rfl rfl (show (Int32.ofNat n2 + (Int32.ofNat n2 + c_shl 2 i1_1)).toInt ≠ 2147483647 from h7) ?_
            refine w_mv (pc1 := 53) (st1 := [.int (Int32.ofNat n2 + (Int32.ofNat n2 + c_shl 2 i1_1))]) rfl rfl rfl ?_
            refine w_mv (pc1 := 54) (st1 := [.ref x0, .int (Int32.ofNat n2 + (Int32.ofNat n2 + c_shl 2 i1_1))]) rfl rfl rfl ?_
            refine cw_gf (v := .int i1_1) (pc1 := 57) rfl (by omega) (by omega) g1 rfl rfl ?_
            refine w_mv (pc1 := 58) (st1 := [.int (c_shr (Int32.ofNat n2 + (Int32.ofNat n2 + c_shl 2 i1_1)) i1_1)]) rfl rfl rfl ?_
            refine w_iret (pc1 := 27) rfl rfl rfl rfl ?_
            refine w_mv (pc1 := 28) (st1 := [.ref x0, .int (c_shr (Int32.ofNat n2 + (Int32.ofNat n2 + c_shl 2 i1_1)) i1_1), .ref r1_0, .ref x0]) rfl rfl rfl ?_
            refine cw_gf (v := .int i1_1) (pc1 := 31) rfl (by omega) (by omega) g1 rfl rfl ?_
            refine w_mv (pc1 := 32) (st1 := [.int (c_shl (c_shr (Int32.ofNat n2 + (Int32.ofNat n2 + c_shl 2 i1_1)) i1_1) i1_1), .ref r1_0, .ref x0]) rfl rfl rfl ?_
            refine w_call (M' := sM_185) (vals := [.ref r1_0, .int (c_shl (c_shr (Int32.ofNat n2 + (Int32.ofNat n2 + c_shl 2 i1_1)) i1_1) i1_1)]) (rest := [.ref x0]) (lv' := [(0, .ref r1_0), (1, .int (c_shl (c_shr (Int32.ofNat n2 + (Int32.ofNat n2 + c_shl 2 i1_1)) i1_1) i1_1))]) rfl rfl rfl rfl rfl rfl rfl rfl rfl rfl ?_
            refine w_mv (pc1 := 1) (st1 := [.int (c_shl (c_shr (Int32.ofNat n2 + (Int32.ofNat n2 + c_shl 2 i1_1)) i1_1) i1_1)]) rfl rfl rfl ?_
            refine w_mv (pc1 := 2) (st1 := [.ref r1_0, .int (c_shl (c_shr (Int32.ofNat n2 + (Int32.ofNat n2 + c_shl 2 i1_1)) i1_1) i1_1)]) rfl rfl rfl ?_
            refine cw_alen (pc1 := 3) rfl (by omega) g2 rfl ?_
            by_cases h8 : (c_shl (c_shr (Int32.ofNat n2 + (Int32.ofNat n2 + c_shl 2 i1_1)) i1_1) i1_1).toInt = (Int32.ofNat n2).toInt
            ·
              replace hh := hh.2 h8
              refine w_ine_F (pc1 := 6) rfl (by decide) rfl (show (c_shl (c_shr (Int32.ofNat n2 + (Int32.ofNat n2 + c_shl 2 i1_1)) i1_1) i1_1).toInt = (Int32.ofNat n2).toInt from h8) ?_
              refine w_mv (pc1 := 7) (st1 := [.ref r1_0]) rfl rfl rfl ?_
              exact hh.elim
            ·
              replace hh := hh.1 h8
              refine w_ine_T (pc1 := 14) rfl rfl (show (c_shl (c_shr (Int32.ofNat n2 + (Int32.ofNat n2 + c_shl 2 i1_1)) i1_1) i1_1).toInt ≠ (Int32.ofNat n2).toInt from h8) ?_
              refine w_mv (pc1 := 15) (st1 := [.int (c_shl (c_shr (Int32.ofNat n2 + (Int32.ofNat n2 + c_shl 2 i1_1)) i1_1) i1_1)]) rfl rfl rfl ?_
              obtain ⟨q9a, hh⟩ := hh
              obtain ⟨n10, q10a, q10b, q10c, hh⟩ := hh
              refine cw_newb (n := n10) (pc1 := 17) rfl rfl q10a q10b q10c ?_
              have g11 : (va_up G N (.inl (1, (n10, .inl (fun _ => 0))))) x0 = .inr (.inl (14, [.ref r1_0, .int i1_1, .int i1_2, .int i1_3])) := (va_ne (by omega)).trans g1
              have g12 : (va_up G N (.inl (1, (n10, .inl (fun _ => 0))))) r1_0 = .inl (1, (n2, .inl f2)) := (va_ne (by omega)).trans g2
              have g13 : (va_up G N (.inl (1, (n10, .inl (fun _ => 0))))) N = .inl (1, (n10, .inl (fun _ => 0))) := up_eq
              refine w_mv (pc1 := 18) (lv1 := [(2, .ref N), (0, .ref r1_0), (1, .int (c_shl (c_shr (Int32.ofNat n2 + (Int32.ofNat n2 + c_shl 2 i1_1)) i1_1) i1_1))]) (st1 := []) rfl rfl rfl ?_
              refine w_mv (pc1 := 19) (st1 := [.ref r1_0]) rfl rfl rfl ?_
              refine w_mv (pc1 := 20) (st1 := [.int 0, .ref r1_0]) rfl rfl rfl ?_
              refine w_mv (pc1 := 21) (st1 := [.ref N, .int 0, .ref r1_0]) rfl rfl rfl ?_
              refine w_mv (pc1 := 22) (st1 := [.int 0, .ref N, .int 0, .ref r1_0]) rfl rfl rfl ?_
              refine w_mv (pc1 := 23) (st1 := [.ref r1_0, .int 0, .ref N, .int 0, .ref r1_0]) rfl rfl rfl ?_
              refine cw_alen (pc1 := 24) rfl (by omega) g12 rfl ?_
              refine w_mv (pc1 := 25) (st1 := [.int (c_shl (c_shr (Int32.ofNat n2 + (Int32.ofNat n2 + c_shl 2 i1_1)) i1_1) i1_1), .int (Int32.ofNat n2), .int 0, .ref N, .int 0, .ref r1_0]) rfl rfl rfl ?_
              refine w_call (M' := sM_174) (vals := [.int (Int32.ofNat n2), .int (c_shl (c_shr (Int32.ofNat n2 + (Int32.ofNat n2 + c_shl 2 i1_1)) i1_1) i1_1)]) (rest := [.int 0, .ref N, .int 0, .ref r1_0]) (lv' := [(0, .int (Int32.ofNat n2)), (1, .int (c_shl (c_shr (Int32.ofNat n2 + (Int32.ofNat n2 + c_shl 2 i1_1)) i1_1) i1_1))]) rfl rfl rfl rfl rfl rfl rfl rfl rfl rfl ?_
              refine w_mv (pc1 := 1) (st1 := [.int (Int32.ofNat n2)]) rfl rfl rfl ?_
              refine w_mv (pc1 := 2) (st1 := [.int (c_shl (c_shr (Int32.ofNat n2 + (Int32.ofNat n2 + c_shl 2 i1_1)) i1_1) i1_1), .int (Int32.ofNat n2)]) rfl rfl rfl ?_
              by_cases h14 : (c_shl (c_shr (Int32.ofNat n2 + (Int32.ofNat n2 + c_shl 2 i1_1)) i1_1) i1_1).toInt < (Int32.ofNat n2).toInt
              ·
                replace hh := hh.1 h14
                refine w_igt_T (pc1 := 9) rfl rfl (show (c_shl (c_shr (Int32.ofNat n2 + (Int32.ofNat n2 + c_shl 2 i1_1)) i1_1) i1_1).toInt < (Int32.ofNat n2).toInt from h14) ?_
                refine w_mv (pc1 := 10) (st1 := [.int (c_shl (c_shr (Int32.ofNat n2 + (Int32.ofNat n2 + c_shl 2 i1_1)) i1_1) i1_1)]) rfl rfl rfl ?_
                refine w_iret (pc1 := 28) rfl rfl rfl rfl ?_
                obtain ⟨q15a, hh⟩ := hh
                refine cw_cpb (sp := (0 : Int32)) (dp := (0 : Int32)) (n := (c_shl (c_shr (Int32.ofNat n2 + (Int32.ofNat n2 + c_shl 2 i1_1)) i1_1) i1_1)) (pc1 := 31) rfl (by omega) (by omega) g12 (by omega) (by omega) g13 (by omega) (Nat.le_of_ble_eq_true rfl) q15a rfl ?_
                have g16 : (va_up (va_up G N (.inl (1, (n10, .inl (fun _ => 0))))) N (.inl (1, (n10, .inl (va_cpy f2 (fun _ => 0) (0 : Int32).toNatClampNeg (0 : Int32).toNatClampNeg (c_shl (c_shr (Int32.ofNat n2 + (Int32.ofNat n2 + c_shl 2 i1_1)) i1_1) i1_1).toNatClampNeg))))) x0 = .inr (.inl (14, [.ref r1_0, .int i1_1, .int i1_2, .int i1_3])) := (va_ne (ne_oa g11 g13)).trans g11
                have g17 : (va_up (va_up G N (.inl (1, (n10, .inl (fun _ => 0))))) N (.inl (1, (n10, .inl (va_cpy f2 (fun _ => 0) (0 : Int32).toNatClampNeg (0 : Int32).toNatClampNeg (c_shl (c_shr (Int32.ofNat n2 + (Int32.ofNat n2 + c_shl 2 i1_1)) i1_1) i1_1).toNatClampNeg))))) N = .inl (1, (n10, .inl (va_cpy f2 (fun _ => 0) (0 : Int32).toNatClampNeg (0 : Int32).toNatClampNeg (c_shl (c_shr (Int32.ofNat n2 + (Int32.ofNat n2 + c_shl 2 i1_1)) i1_1) i1_1).toNatClampNeg))) := up_eq
                refine w_mv (pc1 := 32) (st1 := [.ref N]) rfl rfl rfl ?_
                refine w_aret (pc1 := 35) rfl rfl rfl rfl ?_
                refine cw_pf (c1 := .inr (.inl (14, [.ref N, .int i1_1, .int i1_2, .int i1_3]))) (pc1 := 38) rfl (by omega) (by omega) g16 rfl rfl rfl rfl ?_
                have g18 : (va_up (va_up (va_up G N (.inl (1, (n10, .inl (fun _ => 0))))) N (.inl (1, (n10, .inl (va_cpy f2 (fun _ => 0) (0 : Int32).toNatClampNeg (0 : Int32).toNatClampNeg (c_shl (c_shr (Int32.ofNat n2 + (Int32.ofNat n2 + c_shl 2 i1_1)) i1_1) i1_1).toNatClampNeg))))) x0 (.inr (.inl (14, [.ref N, .int i1_1, .int i1_2, .int i1_3])))) N = .inl (1, (n10, .inl (va_cpy f2 (fun _ => 0) (0 : Int32).toNatClampNeg (0 : Int32).toNatClampNeg (c_shl (c_shr (Int32.ofNat n2 + (Int32.ofNat n2 + c_shl 2 i1_1)) i1_1) i1_1).toNatClampNeg))) := (va_ne (ne_ao g17 g16)).trans g17
                have g19 : (va_up (va_up (va_up G N (.inl (1, (n10, .inl (fun _ => 0))))) N (.inl (1, (n10, .inl (va_cpy f2 (fun _ => 0) (0 : Int32).toNatClampNeg (0 : Int32).toNatClampNeg (c_shl (c_shr (Int32.ofNat n2 + (Int32.ofNat n2 + c_shl 2 i1_1)) i1_1) i1_1).toNatClampNeg))))) x0 (.inr (.inl (14, [.ref N, .int i1_1, .int i1_2, .int i1_3])))) x0 = .inr (.inl (14, [.ref N, .int i1_1, .int i1_2, .int i1_3])) := up_eq
                refine sx_wp.stop rfl rfl rfl ?_
                exact c_acc (hP _ _ _ _ _ hh) (by omega) (by omega)
              ·
                replace hh := hh.2 (Int.not_lt.mp h14)
                refine w_igt_F (pc1 := 5) rfl (by decide) rfl (show (Int32.ofNat n2).toInt ≤ (c_shl (c_shr (Int32.ofNat n2 + (Int32.ofNat n2 + c_shl 2 i1_1)) i1_1) i1_1).toInt from (Int.not_lt.mp h14)) ?_
                refine w_mv (pc1 := 6) (st1 := [.int (Int32.ofNat n2)]) rfl rfl rfl ?_
                refine w_mv (pc1 := 10) (st1 := [.int (Int32.ofNat n2)]) rfl rfl rfl ?_
                refine w_iret (pc1 := 28) rfl rfl rfl rfl ?_
                obtain ⟨q20a, hh⟩ := hh
                refine cw_cpb (sp := (0 : Int32)) (dp := (0 : Int32)) (n := (Int32.ofNat n2)) (pc1 := 31) rfl (by omega) (by omega) g12 (by omega) (by omega) g13 (by omega) (Nat.le_of_ble_eq_true rfl) q20a rfl ?_
                have g21 : (va_up (va_up G N (.inl (1, (n10, .inl (fun _ => 0))))) N (.inl (1, (n10, .inl (va_cpy f2 (fun _ => 0) (0 : Int32).toNatClampNeg (0 : Int32).toNatClampNeg (Int32.ofNat n2).toNatClampNeg))))) x0 = .inr (.inl (14, [.ref r1_0, .int i1_1, .int i1_2, .int i1_3])) := (va_ne (ne_oa g11 g13)).trans g11
                have g22 : (va_up (va_up G N (.inl (1, (n10, .inl (fun _ => 0))))) N (.inl (1, (n10, .inl (va_cpy f2 (fun _ => 0) (0 : Int32).toNatClampNeg (0 : Int32).toNatClampNeg (Int32.ofNat n2).toNatClampNeg))))) N = .inl (1, (n10, .inl (va_cpy f2 (fun _ => 0) (0 : Int32).toNatClampNeg (0 : Int32).toNatClampNeg (Int32.ofNat n2).toNatClampNeg))) := up_eq
                refine w_mv (pc1 := 32) (st1 := [.ref N]) rfl rfl rfl ?_
                refine w_aret (pc1 := 35) rfl rfl rfl rfl ?_
                refine cw_pf (c1 := .inr (.inl (14, [.ref N, .int i1_1, .int i1_2, .int i1_3]))) (pc1 := 38) rfl (by omega) (by omega) g21 rfl rfl rfl rfl ?_
                have g23 : (va_up (va_up (va_up G N (.inl (1, (n10, .inl (fun _ => 0))))) N (.inl (1, (n10, .inl (va_cpy f2 (fun _ => 0) (0 : Int32).toNatClampNeg (0 : Int32).toNatClampNeg (Int32.ofNat n2).toNatClampNeg))))) x0 (.inr (.inl (14, [.ref N, .int i1_1, .int i1_2, .int i1_3])))) N = .inl (1, (n10, .inl (va_cpy f2 (fun _ => 0) (0 : Int32).toNatClampNeg (0 : Int32).toNatClampNeg (Int32.ofNat n2).toNatClampNeg))) := (va_ne (ne_ao g22 g21)).trans g22
                have g24 : (va_up (va_up (va_up G N (.inl (1, (n10, .inl (fun _ => 0))))) N (.inl (1, (n10, .inl (va_cpy f2 (fun _ => 0) (0 : Int32).toNatClampNeg (0 : Int32).toNatClampNeg (Int32.ofNat n2).toNatClampNeg))))) x0 (.inr (.inl (14, [.ref N, .int i1_1, .int i1_2, .int i1_3])))) x0 = .inr (.inl (14, [.ref N, .int i1_1, .int i1_2, .int i1_3])) := up_eq
                refine sx_wp.stop rfl rfl rfl ?_
                exact c_acc (hP _ _ _ _ _ hh) (by omega) (by omega)
    ·
      replace hh := hh.2 (Int.not_lt.mp h4)
      refine w_ilt_F (pc1 := 5) rfl (by decide) rfl (show (Int32.ofNat n2 + c_shl 2 i1_1).toInt ≤ (c_shl p1 i1_1 - Int32.ofNat n2).toInt from (Int.not_lt.mp h4)) ?_
      refine w_mv (pc1 := 6) (st1 := [.int (c_shl p1 i1_1 - Int32.ofNat n2)]) rfl rfl rfl ?_
      refine w_mv (pc1 := 10) (st1 := [.int (c_shl p1 i1_1 - Int32.ofNat n2)]) rfl rfl rfl ?_
      refine w_iret (pc1 := 6) rfl rfl rfl rfl ?_
      refine w_mv (pc1 := 7) (st1 := [.int (Int32.ofNat n2 + (c_shl p1 i1_1 - Int32.ofNat n2))]) rfl rfl rfl ?_
      refine w_mv (pc1 := 8) (lv1 := [(3, .int (Int32.ofNat n2 + (c_shl p1 i1_1 - Int32.ofNat n2))), (0, .int (Int32.ofNat n2)), (1, .int (c_shl p1 i1_1 - Int32.ofNat n2)), (2, .int (Int32.ofNat n2 + c_shl 2 i1_1))]) (st1 := []) rfl rfl rfl ?_
      refine w_mv (pc1 := 9) (st1 := [.int 0]) rfl rfl rfl ?_
      refine w_mv (pc1 := 10) (st1 := [.int (Int32.ofNat n2 + (c_shl p1 i1_1 - Int32.ofNat n2)), .int 0]) rfl rfl rfl ?_
      by_cases h25 : (Int32.ofNat n2 + (c_shl p1 i1_1 - Int32.ofNat n2)).toInt ≤ 0
      ·
        replace hh := hh.1 h25
        refine w_ige_T (pc1 := 21) rfl rfl (show (Int32.ofNat n2 + (c_shl p1 i1_1 - Int32.ofNat n2)).toInt ≤ 0 from h25) ?_
        refine w_mv (pc1 := 22) (st1 := [.int (Int32.ofNat n2)]) rfl rfl rfl ?_
        refine w_mv (pc1 := 23) (st1 := [.int (c_shl p1 i1_1 - Int32.ofNat n2), .int (Int32.ofNat n2)]) rfl rfl rfl ?_
        exact hh.elim
      ·
        replace hh := hh.2 (Int.not_le.mp h25)
        refine w_ige_F (pc1 := 13) rfl (by decide) rfl (show 0 < (Int32.ofNat n2 + (c_shl p1 i1_1 - Int32.ofNat n2)).toInt from (Int.not_le.mp h25)) ?_
        refine w_mv (pc1 := 14) (st1 := [.int (Int32.ofNat n2 + (c_shl p1 i1_1 - Int32.ofNat n2))]) rfl rfl rfl ?_
        refine w_mv (pc1 := 16) (st1 := [.int 2147483639, .int (Int32.ofNat n2 + (c_shl p1 i1_1 - Int32.ofNat n2))]) rfl rfl rfl ?_
        by_cases h26 : 2147483639 < (Int32.ofNat n2 + (c_shl p1 i1_1 - Int32.ofNat n2)).toInt
        ·
          replace hh := hh.1 h26
          refine w_igt_T (pc1 := 21) rfl rfl (show 2147483639 < (Int32.ofNat n2 + (c_shl p1 i1_1 - Int32.ofNat n2)).toInt from h26) ?_
          refine w_mv (pc1 := 22) (st1 := [.int (Int32.ofNat n2)]) rfl rfl rfl ?_
          refine w_mv (pc1 := 23) (st1 := [.int (c_shl p1 i1_1 - Int32.ofNat n2), .int (Int32.ofNat n2)]) rfl rfl rfl ?_
          exact hh.elim
        ·
          replace hh := hh.2 (Int.not_lt.mp h26)
          refine w_igt_F (pc1 := 19) rfl (by decide) rfl (show (Int32.ofNat n2 + (c_shl p1 i1_1 - Int32.ofNat n2)).toInt ≤ 2147483639 from (Int.not_lt.mp h26)) ?_
          refine w_mv (pc1 := 20) (st1 := [.int (Int32.ofNat n2 + (c_shl p1 i1_1 - Int32.ofNat n2))]) rfl rfl rfl ?_
          refine w_iret (pc1 := 32) rfl rfl rfl rfl ?_
          refine w_mv (pc1 := 34) (lv1 := [(5, .int (Int32.ofNat n2 + (c_shl p1 i1_1 - Int32.ofNat n2))), (4, .int (c_shl p1 i1_1 - Int32.ofNat n2)), (3, .int (c_shl p1 i1_1)), (2, .int (Int32.ofNat n2)), (0, .ref x0), (1, .int p1)]) (st1 := []) rfl rfl rfl ?_
          refine w_mv (pc1 := 36) (st1 := [.int (Int32.ofNat n2 + (c_shl p1 i1_1 - Int32.ofNat n2))]) rfl rfl rfl ?_
          refine w_mv (pc1 := 38) (st1 := [.int 2147483647, .int (Int32.ofNat n2 + (c_shl p1 i1_1 - Int32.ofNat n2))]) rfl rfl rfl ?_
          by_cases h27 : (Int32.ofNat n2 + (c_shl p1 i1_1 - Int32.ofNat n2)).toInt = 2147483647
          ·
            replace hh := hh.2 h27
            refine w_ine_F (pc1 := 41) rfl (by decide) rfl (show (Int32.ofNat n2 + (c_shl p1 i1_1 - Int32.ofNat n2)).toInt = 2147483647 from h27) ?_
            exact hh.elim
          ·
            replace hh := hh.1 h27
            refine w_ine_T (pc1 := 51) rfl rfl (show (Int32.ofNat n2 + (c_shl p1 i1_1 - Int32.ofNat n2)).toInt ≠ 2147483647 from h27) ?_
            refine w_mv (pc1 := 53) (st1 := [.int (Int32.ofNat n2 + (c_shl p1 i1_1 - Int32.ofNat n2))]) rfl rfl rfl ?_
            refine w_mv (pc1 := 54) (st1 := [.ref x0, .int (Int32.ofNat n2 + (c_shl p1 i1_1 - Int32.ofNat n2))]) rfl rfl rfl ?_
            refine cw_gf (v := .int i1_1) (pc1 := 57) rfl (by omega) (by omega) g1 rfl rfl ?_
            refine w_mv (pc1 := 58) (st1 := [.int (c_shr (Int32.ofNat n2 + (c_shl p1 i1_1 - Int32.ofNat n2)) i1_1)]) rfl rfl rfl ?_
            refine w_iret (pc1 := 27) rfl rfl rfl rfl ?_
            refine w_mv (pc1 := 28) (st1 := [.ref x0, .int (c_shr (Int32.ofNat n2 + (c_shl p1 i1_1 - Int32.ofNat n2)) i1_1), .ref r1_0, .ref x0]) rfl rfl rfl ?_
            refine cw_gf (v := .int i1_1) (pc1 := 31) rfl (by omega) (by omega) g1 rfl rfl ?_
            refine w_mv (pc1 := 32) (st1 := [.int (c_shl (c_shr (Int32.ofNat n2 + (c_shl p1 i1_1 - Int32.ofNat n2)) i1_1) i1_1), .ref r1_0, .ref x0]) rfl rfl rfl ?_
            refine w_call (M' := sM_185) (vals := [.ref r1_0, .int (c_shl (c_shr (Int32.ofNat n2 + (c_shl p1 i1_1 - Int32.ofNat n2)) i1_1) i1_1)]) (rest := [.ref x0]) (lv' := [(0, .ref r1_0), (1, .int (c_shl (c_shr (Int32.ofNat n2 + (c_shl p1 i1_1 - Int32.ofNat n2)) i1_1) i1_1))]) rfl rfl rfl rfl rfl rfl rfl rfl rfl rfl ?_
            refine w_mv (pc1 := 1) (st1 := [.int (c_shl (c_shr (Int32.ofNat n2 + (c_shl p1 i1_1 - Int32.ofNat n2)) i1_1) i1_1)]) rfl rfl rfl ?_
            refine w_mv (pc1 := 2) (st1 := [.ref r1_0, .int (c_shl (c_shr (Int32.ofNat n2 + (c_shl p1 i1_1 - Int32.ofNat n2)) i1_1) i1_1)]) rfl rfl rfl ?_
            refine cw_alen (pc1 := 3) rfl (by omega) g2 rfl ?_
            by_cases h28 : (c_shl (c_shr (Int32.ofNat n2 + (c_shl p1 i1_1 - Int32.ofNat n2)) i1_1) i1_1).toInt = (Int32.ofNat n2).toInt
            ·
              replace hh := hh.2 h28
              refine w_ine_F (pc1 := 6) rfl (by decide) rfl (show (c_shl (c_shr (Int32.ofNat n2 + (c_shl p1 i1_1 - Int32.ofNat n2)) i1_1) i1_1).toInt = (Int32.ofNat n2).toInt from h28) ?_
              refine w_mv (pc1 := 7) (st1 := [.ref r1_0]) rfl rfl rfl ?_
              exact hh.elim
            ·
              replace hh := hh.1 h28
              refine w_ine_T (pc1 := 14) rfl rfl (show (c_shl (c_shr (Int32.ofNat n2 + (c_shl p1 i1_1 - Int32.ofNat n2)) i1_1) i1_1).toInt ≠ (Int32.ofNat n2).toInt from h28) ?_
              refine w_mv (pc1 := 15) (st1 := [.int (c_shl (c_shr (Int32.ofNat n2 + (c_shl p1 i1_1 - Int32.ofNat n2)) i1_1) i1_1)]) rfl rfl rfl ?_
              obtain ⟨q29a, hh⟩ := hh
              obtain ⟨n30, q30a, q30b, q30c, hh⟩ := hh
              refine cw_newb (n := n30) (pc1 := 17) rfl rfl q30a q30b q30c ?_
              have g31 : (va_up G N (.inl (1, (n30, .inl (fun _ => 0))))) x0 = .inr (.inl (14, [.ref r1_0, .int i1_1, .int i1_2, .int i1_3])) := (va_ne (by omega)).trans g1
              have g32 : (va_up G N (.inl (1, (n30, .inl (fun _ => 0))))) r1_0 = .inl (1, (n2, .inl f2)) := (va_ne (by omega)).trans g2
              have g33 : (va_up G N (.inl (1, (n30, .inl (fun _ => 0))))) N = .inl (1, (n30, .inl (fun _ => 0))) := up_eq
              refine w_mv (pc1 := 18) (lv1 := [(2, .ref N), (0, .ref r1_0), (1, .int (c_shl (c_shr (Int32.ofNat n2 + (c_shl p1 i1_1 - Int32.ofNat n2)) i1_1) i1_1))]) (st1 := []) rfl rfl rfl ?_
              refine w_mv (pc1 := 19) (st1 := [.ref r1_0]) rfl rfl rfl ?_
              refine w_mv (pc1 := 20) (st1 := [.int 0, .ref r1_0]) rfl rfl rfl ?_
              refine w_mv (pc1 := 21) (st1 := [.ref N, .int 0, .ref r1_0]) rfl rfl rfl ?_
              refine w_mv (pc1 := 22) (st1 := [.int 0, .ref N, .int 0, .ref r1_0]) rfl rfl rfl ?_
              refine w_mv (pc1 := 23) (st1 := [.ref r1_0, .int 0, .ref N, .int 0, .ref r1_0]) rfl rfl rfl ?_
              refine cw_alen (pc1 := 24) rfl (by omega) g32 rfl ?_
              refine w_mv (pc1 := 25) (st1 := [.int (c_shl (c_shr (Int32.ofNat n2 + (c_shl p1 i1_1 - Int32.ofNat n2)) i1_1) i1_1), .int (Int32.ofNat n2), .int 0, .ref N, .int 0, .ref r1_0]) rfl rfl rfl ?_
              refine w_call (M' := sM_174) (vals := [.int (Int32.ofNat n2), .int (c_shl (c_shr (Int32.ofNat n2 + (c_shl p1 i1_1 - Int32.ofNat n2)) i1_1) i1_1)]) (rest := [.int 0, .ref N, .int 0, .ref r1_0]) (lv' := [(0, .int (Int32.ofNat n2)), (1, .int (c_shl (c_shr (Int32.ofNat n2 + (c_shl p1 i1_1 - Int32.ofNat n2)) i1_1) i1_1))]) rfl rfl rfl rfl rfl rfl rfl rfl rfl rfl ?_
              refine w_mv (pc1 := 1) (st1 := [.int (Int32.ofNat n2)]) rfl rfl rfl ?_
              refine w_mv (pc1 := 2) (st1 := [.int (c_shl (c_shr (Int32.ofNat n2 + (c_shl p1 i1_1 - Int32.ofNat n2)) i1_1) i1_1), .int (Int32.ofNat n2)]) rfl rfl rfl ?_
              by_cases h34 : (c_shl (c_shr (Int32.ofNat n2 + (c_shl p1 i1_1 - Int32.ofNat n2)) i1_1) i1_1).toInt < (Int32.ofNat n2).toInt
              ·
                replace hh := hh.1 h34
                refine w_igt_T (pc1 := 9) rfl rfl (show (c_shl (c_shr (Int32.ofNat n2 + (c_shl p1 i1_1 - Int32.ofNat n2)) i1_1) i1_1).toInt < (Int32.ofNat n2).toInt from h34) ?_
                refine w_mv (pc1 := 10) (st1 := [.int (c_shl (c_shr (Int32.ofNat n2 + (c_shl p1 i1_1 - Int32.ofNat n2)) i1_1) i1_1)]) rfl rfl rfl ?_
                refine w_iret (pc1 := 28) rfl rfl rfl rfl ?_
                obtain ⟨q35a, hh⟩ := hh
                refine cw_cpb (sp := (0 : Int32)) (dp := (0 : Int32)) (n := (c_shl (c_shr (Int32.ofNat n2 + (c_shl p1 i1_1 - Int32.ofNat n2)) i1_1) i1_1)) (pc1 := 31) rfl (by omega) (by omega) g32 (by omega) (by omega) g33 (by omega) (Nat.le_of_ble_eq_true rfl) q35a rfl ?_
                have g36 : (va_up (va_up G N (.inl (1, (n30, .inl (fun _ => 0))))) N (.inl (1, (n30, .inl (va_cpy f2 (fun _ => 0) (0 : Int32).toNatClampNeg (0 : Int32).toNatClampNeg (c_shl (c_shr (Int32.ofNat n2 + (c_shl p1 i1_1 - Int32.ofNat n2)) i1_1) i1_1).toNatClampNeg))))) x0 = .inr (.inl (14, [.ref r1_0, .int i1_1, .int i1_2, .int i1_3])) := (va_ne (ne_oa g31 g33)).trans g31
                have g37 : (va_up (va_up G N (.inl (1, (n30, .inl (fun _ => 0))))) N (.inl (1, (n30, .inl (va_cpy f2 (fun _ => 0) (0 : Int32).toNatClampNeg (0 : Int32).toNatClampNeg (c_shl (c_shr (Int32.ofNat n2 + (c_shl p1 i1_1 - Int32.ofNat n2)) i1_1) i1_1).toNatClampNeg))))) N = .inl (1, (n30, .inl (va_cpy f2 (fun _ => 0) (0 : Int32).toNatClampNeg (0 : Int32).toNatClampNeg (c_shl (c_shr (Int32.ofNat n2 + (c_shl p1 i1_1 - Int32.ofNat n2)) i1_1) i1_1).toNatClampNeg))) := up_eq
                refine w_mv (pc1 := 32) (st1 := [.ref N]) rfl rfl rfl ?_
                refine w_aret (pc1 := 35) rfl rfl rfl rfl ?_
                refine cw_pf (c1 := .inr (.inl (14, [.ref N, .int i1_1, .int i1_2, .int i1_3]))) (pc1 := 38) rfl (by omega) (by omega) g36 rfl rfl rfl rfl ?_
                have g38 : (va_up (va_up (va_up G N (.inl (1, (n30, .inl (fun _ => 0))))) N (.inl (1, (n30, .inl (va_cpy f2 (fun _ => 0) (0 : Int32).toNatClampNeg (0 : Int32).toNatClampNeg (c_shl (c_shr (Int32.ofNat n2 + (c_shl p1 i1_1 - Int32.ofNat n2)) i1_1) i1_1).toNatClampNeg))))) x0 (.inr (.inl (14, [.ref N, .int i1_1, .int i1_2, .int i1_3])))) N = .inl (1, (n30, .inl (va_cpy f2 (fun _ => 0) (0 : Int32).toNatClampNeg (0 : Int32).toNatClampNeg (c_shl (c_shr (Int32.ofNat n2 + (c_shl p1 i1_1 - Int32.ofNat n2)) i1_1) i1_1).toNatClampNeg))) := (va_ne (ne_ao g37 g36)).trans g37
                have g39 : (va_up (va_up (va_up G N (.inl (1, (n30, .inl (fun _ => 0))))) N (.inl (1, (n30, .inl (va_cpy f2 (fun _ => 0) (0 : Int32).toNatClampNeg (0 : Int32).toNatClampNeg (c_shl (c_shr (Int32.ofNat n2 + (c_shl p1 i1_1 - Int32.ofNat n2)) i1_1) i1_1).toNatClampNeg))))) x0 (.inr (.inl (14, [.ref N, .int i1_1, .int i1_2, .int i1_3])))) x0 = .inr (.inl (14, [.ref N, .int i1_1, .int i1_2, .int i1_3])) := up_eq
                refine sx_wp.stop rfl rfl rfl ?_
                exact c_acc (hP _ _ _ _ _ hh) (by omega) (by omega)
              ·
                replace hh := hh.2 (Int.not_lt.mp h34)
                refine w_igt_F (pc1 := 5) rfl (by decide) rfl (show (Int32.ofNat n2).toInt ≤ (c_shl (c_shr (Int32.ofNat n2 + (c_shl p1 i1_1 - Int32.ofNat n2)) i1_1) i1_1).toInt from (Int.not_lt.mp h34)) ?_
                refine w_mv (pc1 := 6) (st1 := [.int (Int32.ofNat n2)]) rfl rfl rfl ?_
                refine w_mv (pc1 := 10) (st1 := [.int (Int32.ofNat n2)]) rfl rfl rfl ?_
                refine w_iret (pc1 := 28) rfl rfl rfl rfl ?_
                obtain ⟨q40a, hh⟩ := hh
                refine cw_cpb (sp := (0 : Int32)) (dp := (0 : Int32)) (n := (Int32.ofNat n2)) (pc1 := 31) rfl (by omega) (by omega) g32 (by omega) (by omega) g33 (by omega) (Nat.le_of_ble_eq_true rfl) q40a rfl ?_
                have g41 : (va_up (va_up G N (.inl (1, (n30, .inl (fun _ => 0))))) N (.inl (1, (n30, .inl (va_cpy f2 (fun _ => 0) (0 : Int32).toNatClampNeg (0 : Int32).toNatClampNeg (Int32.ofNat n2).toNatClampNeg))))) x0 = .inr (.inl (14, [.ref r1_0, .int i1_1, .int i1_2, .int i1_3])) := (va_ne (ne_oa g31 g33)).trans g31
                have g42 : (va_up (va_up G N (.inl (1, (n30, .inl (fun _ => 0))))) N (.inl (1, (n30, .inl (va_cpy f2 (fun _ => 0) (0 : Int32).toNatClampNeg (0 : Int32).toNatClampNeg (Int32.ofNat n2).toNatClampNeg))))) N = .inl (1, (n30, .inl (va_cpy f2 (fun _ => 0) (0 : Int32).toNatClampNeg (0 : Int32).toNatClampNeg (Int32.ofNat n2).toNatClampNeg))) := up_eq
                refine w_mv (pc1 := 32) (st1 := [.ref N]) rfl rfl rfl ?_
                refine w_aret (pc1 := 35) rfl rfl rfl rfl ?_
                refine cw_pf (c1 := .inr (.inl (14, [.ref N, .int i1_1, .int i1_2, .int i1_3]))) (pc1 := 38) rfl (by omega) (by omega) g41 rfl rfl rfl rfl ?_
                have g43 : (va_up (va_up (va_up G N (.inl (1, (n30, .inl (fun _ => 0))))) N (.inl (1, (n30, .inl (va_cpy f2 (fun _ => 0) (0 : Int32).toNatClampNeg (0 : Int32).toNatClampNeg (Int32.ofNat n2).toNatClampNeg))))) x0 (.inr (.inl (14, [.ref N, .int i1_1, .int i1_2, .int i1_3])))) N = .inl (1, (n30, .inl (va_cpy f2 (fun _ => 0) (0 : Int32).toNatClampNeg (0 : Int32).toNatClampNeg (Int32.ofNat n2).toNatClampNeg))) := (va_ne (ne_ao g42 g41)).trans g42
                have g44 : (va_up (va_up (va_up G N (.inl (1, (n30, .inl (fun _ => 0))))) N (.inl (1, (n30, .inl (va_cpy f2 (fun _ => 0) (0 : Int32).toNatClampNeg (0 : Int32).toNatClampNeg (Int32.ofNat n2).toNatClampNeg))))) x0 (.inr (.inl (14, [.ref N, .int i1_1, .int i1_2, .int i1_3])))) x0 = .inr (.inl (14, [.ref N, .int i1_1, .int i1_2, .int i1_3])) := up_eq
                refine sx_wp.stop rfl rfl rfl ?_
                exact c_acc (hP _ _ _ _ _ hh) (by omega) (by omega)
set_option maxRecDepth 20000 in
set_option maxHeartbeats 4000000 in
theorem k_190_0 {x0 : Nat} {p1 : Int32} {N : Nat} {G : Nat → sx_C} {K : Option Value ⊕ Nat → Nat → (Nat → sx_C) → Nat → Nat → Prop} (hh : 5 ≤ x0 ∧ x0 < N ∧ ∃ (r1_0 : Nat) (i1_1 : Int32) (i1_2 : Int32) (i1_3 : Int32), G x0 = .inr (.inl (14, [.ref r1_0, .int i1_1, .int i1_2, .int i1_3])) ∧ cT (1) sM_192 0 [(0, .int p1)] [] (N) G (fun r2 N2 G2 kc2 ks2 => N = N2 ∧ G = G2 ∧ 0 = kc2 ∧ 0 = ks2 ∧ ∃ v2 : Int32, r2 = .inl (some (.int v2)) ∧ cT (4) sM_183 0 [(0, .ref x0), (1, .int (i1_3 + v2))] [] (N) G (fun r3 N3 G3 kc3 ks3 => r3 = .inl none ∧ 5 ≤ x0 ∧ x0 < N3 ∧ ∃ (r4_0 : Nat) (i4_1 : Int32) (i4_2 : Int32) (i4_3 : Int32), G3 x0 = .inr (.inl (14, [.ref r4_0, .int i4_1, .int i4_2, .int i4_3])) ∧ ((i4_1.toInt ≠ 0 → False) ∧ (i4_1.toInt = 0 → cT (1) sM_193 0 [(0, .int p1), (1, .int (i1_3 + v2)), (2, .ref r4_0)] [] (N3) G3 (fun r6 N6 G6 kc6 ks6 => ∃ v6 : Int32, r6 = .inl (some (.int v6)) ∧ 5 ≤ x0 ∧ x0 < N6 ∧ ∃ (r7_0 : Nat) (i7_1 : Int32) (i7_2 : Int32) (i7_3 : Int32), G6 x0 = .inr (.inl (14, [.ref r7_0, .int i7_1, .int i7_2, .int i7_3])) ∧ K (.inl (some (.ref x0))) (N6) (va_up G6 x0 (.inr (.inl (14, [.ref r7_0, .int i7_1, .int i7_2, .int (i1_3 + v2)])))) (kc3 + kc6) (ks3 + ks6))))))) : cT (6) sM_190 0 [(0, .ref x0), (1, .int p1)] [] N G K := by
  intro d dc ds P hP
  refine w_mv (pc1 := 1) (st1 := [.ref x0]) rfl rfl rfl ?_
  refine w_mv (pc1 := 2) (st1 := [.int p1, .ref x0]) rfl rfl rfl ?_
  obtain ⟨b1a, b1b, r1_0, i1_1, i1_2, i1_3, g1, hh⟩ := hh
  refine w_call (M' := sM_191) (vals := [.ref x0, .int p1]) (rest := []) (lv' := [(0, .ref x0), (1, .int p1)]) rfl rfl rfl rfl rfl rfl (cH_rcvS (by omega) (by omega) g1 rfl) rfl rfl rfl ?_
  refine w_mv (pc1 := 1) (st1 := [.ref x0]) rfl rfl rfl ?_
  refine cw_gf (v := .int i1_3) (pc1 := 4) rfl (by omega) (by omega) g1 rfl rfl ?_
  refine w_mv (pc1 := 5) (lv1 := [(2, .int i1_3), (0, .ref x0), (1, .int p1)]) (st1 := []) rfl rfl rfl ?_
  refine w_mv (pc1 := 6) (st1 := [.int i1_3]) rfl rfl rfl ?_
  refine w_mv (pc1 := 7) (st1 := [.int p1, .int i1_3]) rfl rfl rfl ?_
  refine w_call (M' := sM_192) (vals := [.int p1]) (rest := [.int i1_3]) (lv' := [(0, .int p1)]) rfl rfl rfl rfl rfl rfl rfl rfl rfl rfl ?_
  refine hh _ _ _ _ (fun r2 N2 G2 kc2 ks2 hh => ?_)
  obtain ⟨eN2, eG2, ek2, es2, hh⟩ := hh
  subst eN2
  subst eG2
  subst ek2
  subst es2
  obtain ⟨v2, er2, hh⟩ := hh
  subst er2
  refine w_ki (pc1 := 10) rfl ?_
  refine w_mv (pc1 := 11) (st1 := [.int (i1_3 + v2)]) rfl rfl rfl ?_
  refine w_mv (pc1 := 12) (lv1 := [(3, .int (i1_3 + v2)), (2, .int i1_3), (0, .ref x0), (1, .int p1)]) (st1 := []) rfl rfl rfl ?_
  refine w_mv (pc1 := 13) (st1 := [.ref x0]) rfl rfl rfl ?_
  refine w_mv (pc1 := 14) (st1 := [.int (i1_3 + v2), .ref x0]) rfl rfl rfl ?_
  refine w_call (M' := sM_183) (vals := [.ref x0, .int (i1_3 + v2)]) (rest := []) (lv' := [(0, .ref x0), (1, .int (i1_3 + v2))]) rfl rfl rfl rfl rfl rfl (cH_rcv (by omega) (by omega) g1) rfl rfl rfl ?_
  refine hh _ _ _ _ (fun r3 N3 G3 kc3 ks3 hh => ?_)
  obtain ⟨er3, hh⟩ := hh
  subst er3
  refine w_kv (pc1 := 17) rfl ?_
  refine w_mv (pc1 := 18) (st1 := [.ref x0]) rfl rfl rfl ?_
  obtain ⟨b4a, b4b, r4_0, i4_1, i4_2, i4_3, g4, hh⟩ := hh
  refine w_call (M' := sM_186) (vals := [.ref x0]) (rest := []) (lv' := [(0, .ref x0)]) rfl rfl rfl rfl rfl rfl (cH_rcv (by omega) (by omega) g4) rfl rfl rfl ?_
  refine w_mv (pc1 := 3) (st1 := [.int 1]) rfl rfl rfl ?_
  refine w_mv (pc1 := 6) (st1 := []) rfl rfl rfl ?_
  refine w_mv (pc1 := 7) (st1 := [.ref x0]) rfl rfl rfl ?_
  refine cw_gf (v := .int i4_1) (pc1 := 10) rfl (by omega) (by omega) g4 rfl rfl ?_
  by_cases h5 : i4_1.toInt = 0
  ·
    replace hh := hh.2 h5
    refine w_zne_F (pc1 := 13) rfl (by decide) rfl (show i4_1.toInt = 0 from h5) ?_
    refine w_mv (pc1 := 14) (st1 := [.int 1]) rfl rfl rfl ?_
    refine w_mv (pc1 := 18) (st1 := [.int 1]) rfl rfl rfl ?_
    refine w_iret (pc1 := 21) rfl rfl rfl rfl ?_
    refine w_mv (pc1 := 24) (st1 := []) rfl rfl rfl ?_
    refine w_mv (pc1 := 25) (st1 := [.int p1]) rfl rfl rfl ?_
    refine w_mv (pc1 := 26) (st1 := [.int (i1_3 + v2), .int p1]) rfl rfl rfl ?_
    refine w_mv (pc1 := 27) (st1 := [.ref x0, .int (i1_3 + v2), .int p1]) rfl rfl rfl ?_
    refine cw_gf (v := .ref r4_0) (pc1 := 30) rfl (by omega) (by omega) g4 rfl rfl ?_
    refine w_call (M' := sM_193) (vals := [.int p1, .int (i1_3 + v2), .ref r4_0]) (rest := []) (lv' := [(0, .int p1), (1, .int (i1_3 + v2)), (2, .ref r4_0)]) rfl rfl rfl rfl rfl rfl rfl rfl rfl rfl ?_
    refine hh _ _ _ _ (fun r6 N6 G6 kc6 ks6 hh => ?_)
    obtain ⟨v6, er6, hh⟩ := hh
    subst er6
    refine w_ki (pc1 := 33) rfl ?_
    refine w_mv (pc1 := 34) (st1 := []) rfl rfl rfl ?_
    refine w_mv (pc1 := 48) (st1 := []) rfl rfl rfl ?_
    refine w_mv (pc1 := 49) (st1 := [.ref x0]) rfl rfl rfl ?_
    refine w_mv (pc1 := 50) (st1 := [.int (i1_3 + v2), .ref x0]) rfl rfl rfl ?_
    obtain ⟨b7a, b7b, r7_0, i7_1, i7_2, i7_3, g7, hh⟩ := hh
    refine cw_pf (c1 := .inr (.inl (14, [.ref r7_0, .int i7_1, .int i7_2, .int (i1_3 + v2)]))) (pc1 := 53) rfl (by omega) (by omega) g7 rfl rfl rfl rfl ?_
    have g8 : (va_up G6 x0 (.inr (.inl (14, [.ref r7_0, .int i7_1, .int i7_2, .int (i1_3 + v2)])))) x0 = .inr (.inl (14, [.ref r7_0, .int i7_1, .int i7_2, .int (i1_3 + v2)])) := up_eq
    refine w_mv (pc1 := 54) (st1 := [.ref x0]) rfl rfl rfl ?_
    refine w_aret (pc1 := 5) rfl rfl rfl rfl ?_
    refine w_mv (pc1 := 6) (st1 := []) rfl rfl rfl ?_
    refine w_mv (pc1 := 7) (st1 := [.ref x0]) rfl rfl rfl ?_
    refine sx_wp.stop rfl rfl rfl ?_
    exact c_acc (hP _ _ _ _ _ hh) (by omega) (by omega)
  ·
    replace hh := hh.1 h5
    refine w_zne_T (pc1 := 17) rfl rfl (show i4_1.toInt ≠ 0 from h5) ?_
    refine w_mv (pc1 := 18) (st1 := [.int 0]) rfl rfl rfl ?_
    refine w_iret (pc1 := 21) rfl rfl rfl rfl ?_
    refine w_mv (pc1 := 37) (st1 := []) rfl rfl rfl ?_
    refine w_mv (pc1 := 38) (st1 := [.int p1]) rfl rfl rfl ?_
    refine w_mv (pc1 := 39) (st1 := [.int i1_3, .int p1]) rfl rfl rfl ?_
    refine w_mv (pc1 := 40) (st1 := [.int (i1_3 + v2), .int i1_3, .int p1]) rfl rfl rfl ?_
    refine w_mv (pc1 := 41) (st1 := [.ref x0, .int (i1_3 + v2), .int i1_3, .int p1]) rfl rfl rfl ?_
    refine cw_gf (v := .ref r4_0) (pc1 := 44) rfl (by omega) (by omega) g4 rfl rfl ?_
    exact hh.elim
set_option maxRecDepth 20000 in
set_option maxHeartbeats 4000000 in
theorem k_192_0 {p0 : Int32} {N : Nat} {G : Nat → sx_C} {K : Option Value ⊕ Nat → Nat → (Nat → sx_C) → Nat → Nat → Prop} (hh : ((p0.toInt < 0 → cT (1) sM_192 16 [(0, .int p0), (1, .int 1), (2, .int (-10)), (3, .int 1)] [] (N) G (fun r N1 G1 kc1 ks1 => K r N1 G1 (kc1) (ks1))) ∧ (0 ≤ p0.toInt → cT (1) sM_192 16 [(0, .int (-p0)), (1, .int 0), (2, .int (-10)), (3, .int 1)] [] (N) G (fun r N1 G1 kc1 ks1 => K r N1 G1 (kc1) (ks1))))) : cT (1) sM_192 0 [(0, .int p0)] [] N G K := by
  intro d dc ds P hP
  refine w_mv (pc1 := 1) (st1 := [.int 1]) rfl rfl rfl ?_
  refine w_mv (pc1 := 2) (lv1 := [(1, .int 1), (0, .int p0)]) (st1 := []) rfl rfl rfl ?_
  refine w_mv (pc1 := 3) (st1 := [.int p0]) rfl rfl rfl ?_
  by_cases h1 : p0.toInt < 0
  ·
    replace hh := hh.1 h1
    refine w_zlt_T (pc1 := 11) rfl rfl (show p0.toInt < 0 from h1) ?_
    refine w_mv (pc1 := 13) (st1 := [.int (-10)]) rfl rfl rfl ?_
    refine w_mv (pc1 := 14) (lv1 := [(2, .int (-10)), (1, .int 1), (0, .int p0)]) (st1 := []) rfl rfl rfl ?_
    refine w_mv (pc1 := 15) (st1 := [.int 1]) rfl rfl rfl ?_
    refine w_mv (pc1 := 16) (lv1 := [(3, .int 1), (2, .int (-10)), (1, .int 1), (0, .int p0)]) (st1 := []) rfl rfl rfl ?_
    refine w_wk (l1 := [(0, .int p0), (1, .int 1), (2, .int (-10)), (3, .int 1)]) rfl ⟨rfl, rfl, rfl, rfl, trivial⟩ ?_
    refine hh d _ _ P (fun r N1 G1 kc1 ks1 q => ?_)
    exact c_acc (hP r N1 G1 _ _ q) (by omega) (by omega)
  ·
    replace hh := hh.2 (Int.not_lt.mp h1)
    refine w_zlt_F (pc1 := 6) rfl (by decide) rfl (show 0 ≤ p0.toInt from (Int.not_lt.mp h1)) ?_
    refine w_mv (pc1 := 7) (st1 := [.int 0]) rfl rfl rfl ?_
    refine w_mv (pc1 := 8) (lv1 := [(1, .int 0), (0, .int p0)]) (st1 := []) rfl rfl rfl ?_
    refine w_mv (pc1 := 9) (st1 := [.int p0]) rfl rfl rfl ?_
    refine w_mv (pc1 := 10) (st1 := [.int (-p0)]) rfl rfl rfl ?_
    refine w_mv (pc1 := 11) (lv1 := [(0, .int (-p0)), (1, .int 0)]) (st1 := []) rfl rfl rfl ?_
    refine w_mv (pc1 := 13) (st1 := [.int (-10)]) rfl rfl rfl ?_
    refine w_mv (pc1 := 14) (lv1 := [(2, .int (-10)), (0, .int (-p0)), (1, .int 0)]) (st1 := []) rfl rfl rfl ?_
    refine w_mv (pc1 := 15) (st1 := [.int 1]) rfl rfl rfl ?_
    refine w_mv (pc1 := 16) (lv1 := [(3, .int 1), (2, .int (-10)), (0, .int (-p0)), (1, .int 0)]) (st1 := []) rfl rfl rfl ?_
    refine w_wk (l1 := [(0, .int (-p0)), (1, .int 0), (2, .int (-10)), (3, .int 1)]) rfl ⟨rfl, rfl, rfl, rfl, trivial⟩ ?_
    refine hh d _ _ P (fun r N1 G1 kc1 ks1 q => ?_)
    exact c_acc (hP r N1 G1 _ _ q) (by omega) (by omega)
set_option maxRecDepth 20000 in
set_option maxHeartbeats 4000000 in
theorem k_192_16 {p0 : Int32} {p1 : Int32} {p2 : Int32} {p3 : Int32} {N : Nat} {G : Nat → sx_C} {K : Option Value ⊕ Nat → Nat → (Nat → sx_C) → Nat → Nat → Prop} (hh : ((10 ≤ p3.toInt → K (.inl (some (.int (10 + p1)))) (N) G (0) (0)) ∧ (p3.toInt < 10 → ((p0.toInt ≤ p2.toInt → cT (1) sM_192 16 [(0, .int p0), (1, .int p1), (2, .int (10 * p2)), (3, .int (p3 + 1))] [] (N) G (fun r N1 G1 kc1 ks1 => K r N1 G1 (kc1) (ks1))) ∧ (p2.toInt < p0.toInt → K (.inl (some (.int (p3 + p1)))) (N) G (0) (0)))))) : cT (1) sM_192 16 [(0, .int p0), (1, .int p1), (2, .int p2), (3, .int p3)] [] N G K := by
  intro d dc ds P hP
  refine w_mv (pc1 := 17) (st1 := [.int p3]) rfl rfl rfl ?_
  refine w_mv (pc1 := 19) (st1 := [.int 10, .int p3]) rfl rfl rfl ?_
  by_cases h1 : 10 ≤ p3.toInt
  ·
    replace hh := hh.1 h1
    refine w_ige_T (pc1 := 42) rfl rfl (show 10 ≤ p3.toInt from h1) ?_
    refine w_mv (pc1 := 44) (st1 := [.int 10]) rfl rfl rfl ?_
    refine w_mv (pc1 := 45) (st1 := [.int p1, .int 10]) rfl rfl rfl ?_
    refine w_mv (pc1 := 46) (st1 := [.int (10 + p1)]) rfl rfl rfl ?_
    refine sx_wp.stop rfl rfl rfl ?_
    exact c_acc (hP _ _ _ _ _ hh) (by omega) (by omega)
  ·
    replace hh := hh.2 (Int.not_le.mp h1)
    refine w_ige_F (pc1 := 22) rfl (by decide) rfl (show p3.toInt < 10 from (Int.not_le.mp h1)) ?_
    refine w_mv (pc1 := 23) (st1 := [.int p0]) rfl rfl rfl ?_
    refine w_mv (pc1 := 24) (st1 := [.int p2, .int p0]) rfl rfl rfl ?_
    by_cases h2 : p0.toInt ≤ p2.toInt
    ·
      replace hh := hh.1 h2
      refine w_ile_T (pc1 := 31) rfl rfl (show p0.toInt ≤ p2.toInt from h2) ?_
      refine w_mv (pc1 := 33) (st1 := [.int 10]) rfl rfl rfl ?_
      refine w_mv (pc1 := 34) (st1 := [.int p2, .int 10]) rfl rfl rfl ?_
      refine w_mv (pc1 := 35) (st1 := [.int (10 * p2)]) rfl rfl rfl ?_
      refine w_mv (pc1 := 36) (lv1 := [(2, .int (10 * p2)), (0, .int p0), (1, .int p1), (3, .int p3)]) (st1 := []) rfl rfl rfl ?_
      refine w_mv (pc1 := 39) (lv1 := [(3, .int (p3 + 1)), (2, .int (10 * p2)), (0, .int p0), (1, .int p1)]) (st1 := []) rfl rfl rfl ?_
      refine w_mv (pc1 := 16) (st1 := []) rfl rfl rfl ?_
      refine w_wk (l1 := [(0, .int p0), (1, .int p1), (2, .int (10 * p2)), (3, .int (p3 + 1))]) rfl ⟨rfl, rfl, rfl, rfl, trivial⟩ ?_
      refine hh d _ _ P (fun r N1 G1 kc1 ks1 q => ?_)
      exact c_acc (hP r N1 G1 _ _ q) (by omega) (by omega)
    ·
      replace hh := hh.2 (Int.not_le.mp h2)
      refine w_ile_F (pc1 := 27) rfl (by decide) rfl (show p2.toInt < p0.toInt from (Int.not_le.mp h2)) ?_
      refine w_mv (pc1 := 28) (st1 := [.int p3]) rfl rfl rfl ?_
      refine w_mv (pc1 := 29) (st1 := [.int p1, .int p3]) rfl rfl rfl ?_
      refine w_mv (pc1 := 30) (st1 := [.int (p3 + p1)]) rfl rfl rfl ?_
      refine sx_wp.stop rfl rfl rfl ?_
      exact c_acc (hP _ _ _ _ _ hh) (by omega) (by omega)
set_option maxRecDepth 20000 in
set_option maxHeartbeats 4000000 in
theorem k_193_0 {p0 : Int32} {p1 : Int32} {y2 : Nat} {N : Nat} {G : Nat → sx_C} {K : Option Value ⊕ Nat → Nat → (Nat → sx_C) → Nat → Nat → Prop} (hh : ((0 ≤ p0.toInt → cT (1) sM_193 22 [(0, .int (-p0)), (1, .int p1), (2, .ref y2), (5, .int p1), (6, .int 0)] [] (N) G (fun r N1 G1 kc1 ks1 => K r N1 G1 (kc1) (ks1))) ∧ (p0.toInt < 0 → cT (1) sM_193 22 [(0, .int p0), (1, .int p1), (2, .ref y2), (5, .int p1), (6, .int 1)] [] (N) G (fun r N1 G1 kc1 ks1 => K r N1 G1 (kc1) (ks1))))) : cT (1) sM_193 0 [(0, .int p0), (1, .int p1), (2, .ref y2)] [] N G K := by
  intro d dc ds P hP
  refine w_mv (pc1 := 1) (st1 := [.int p1]) rfl rfl rfl ?_
  refine w_mv (pc1 := 3) (lv1 := [(5, .int p1), (0, .int p0), (1, .int p1), (2, .ref y2)]) (st1 := []) rfl rfl rfl ?_
  refine w_mv (pc1 := 4) (st1 := [.int p0]) rfl rfl rfl ?_
  by_cases h1 : 0 ≤ p0.toInt
  ·
    replace hh := hh.1 h1
    refine w_zge_T (pc1 := 11) rfl rfl (show 0 ≤ p0.toInt from h1) ?_
    refine w_mv (pc1 := 12) (st1 := [.int 0]) rfl rfl rfl ?_
    refine w_mv (pc1 := 14) (lv1 := [(6, .int 0), (5, .int p1), (0, .int p0), (1, .int p1), (2, .ref y2)]) (st1 := []) rfl rfl rfl ?_
    refine w_mv (pc1 := 16) (st1 := [.int 0]) rfl rfl rfl ?_
    refine w_mv (pc1 := 19) (st1 := []) rfl rfl rfl ?_
    refine w_mv (pc1 := 20) (st1 := [.int p0]) rfl rfl rfl ?_
    refine w_mv (pc1 := 21) (st1 := [.int (-p0)]) rfl rfl rfl ?_
    refine w_mv (pc1 := 22) (lv1 := [(0, .int (-p0)), (6, .int 0), (5, .int p1), (1, .int p1), (2, .ref y2)]) (st1 := []) rfl rfl rfl ?_
    refine w_wk (l1 := [(0, .int (-p0)), (1, .int p1), (2, .ref y2), (5, .int p1), (6, .int 0)]) rfl ⟨rfl, rfl, rfl, rfl, rfl, trivial⟩ ?_
    refine hh d _ _ P (fun r N1 G1 kc1 ks1 q => ?_)
    exact c_acc (hP r N1 G1 _ _ q) (by omega) (by omega)
  ·
    replace hh := hh.2 (Int.not_le.mp h1)
    refine w_zge_F (pc1 := 7) rfl (by decide) rfl (show p0.toInt < 0 from (Int.not_le.mp h1)) ?_
    refine w_mv (pc1 := 8) (st1 := [.int 1]) rfl rfl rfl ?_
    refine w_mv (pc1 := 12) (st1 := [.int 1]) rfl rfl rfl ?_
    refine w_mv (pc1 := 14) (lv1 := [(6, .int 1), (5, .int p1), (0, .int p0), (1, .int p1), (2, .ref y2)]) (st1 := []) rfl rfl rfl ?_
    refine w_mv (pc1 := 16) (st1 := [.int 1]) rfl rfl rfl ?_
    refine w_mv (pc1 := 22) (st1 := []) rfl rfl rfl ?_
    refine w_wk (l1 := [(0, .int p0), (1, .int p1), (2, .ref y2), (5, .int p1), (6, .int 1)]) rfl ⟨rfl, rfl, rfl, rfl, rfl, trivial⟩ ?_
    refine hh d _ _ P (fun r N1 G1 kc1 ks1 q => ?_)
    exact c_acc (hP r N1 G1 _ _ q) (by omega) (by omega)
set_option maxRecDepth 20000 in
set_option maxHeartbeats 4000000 in
theorem k_193_22 {p0 : Int32} {p1 : Int32} {y2 : Nat} {p5 : Int32} {p6 : Int32} {N : Nat} {G : Nat → sx_C} {K : Option Value ⊕ Nat → Nat → (Nat → sx_C) → Nat → Nat → Prop} (hh : (((-100) < p0.toInt → 2 < N ∧ ∃ (n2 : Nat) (f2 : Nat → Int32), G 2 = .inl (1, (n2, .inl f2)) ∧ 0 ≤ (-p0).toInt ∧ (-p0).toInt < (n2 : Nat) ∧ 5 ≤ y2 ∧ y2 < N ∧ ∃ (n4 : Nat) (f4 : Nat → Int32), G y2 = .inl (1, (n4, .inl f4)) ∧ 0 ≤ (p5 + (-1)).toInt ∧ (p5 + (-1)).toInt < (n4 : Nat) ∧ (((-9) ≤ p0.toInt → ((p6.toInt = 0 → K (.inl (some (.int (p5 + (-1))))) (N) (va_up G y2 (.inl (1, (n4, .inl (upd f4 (p5 + (-1)).toNatClampNeg (vp_nar .byte (f2 (-p0).toNatClampNeg))))))) (0) (0)) ∧ (p6.toInt ≠ 0 → 0 ≤ (p5 + (-1) + (-1)).toInt ∧ (p5 + (-1) + (-1)).toInt < (n4 : Nat) ∧ K (.inl (some (.int (p5 + (-1) + (-1))))) (N) (va_up G y2 (.inl (1, (n4, .inl (upd (upd f4 (p5 + (-1)).toNatClampNeg (vp_nar .byte (f2 (-p0).toNatClampNeg))) (p5 + (-1) + (-1)).toNatClampNeg (vp_nar .byte 45)))))) (0) (0)))) ∧ (p0.toInt < (-9) → 3 < N ∧ ∃ (n13 : Nat) (f13 : Nat → Int32), (va_up G y2 (.inl (1, (n4, .inl (upd f4 (p5 + (-1)).toNatClampNeg (vp_nar .byte (f2 (-p0).toNatClampNeg))))))) 3 = .inl (1, (n13, .inl f13)) ∧ 0 ≤ (-p0).toInt ∧ (-p0).toInt < (n13 : Nat) ∧ 0 ≤ (p5 + (-1) + (-1)).toInt ∧ (p5 + (-1) + (-1)).toInt < (n4 : Nat) ∧ ((p6.toInt = 0 → K (.inl (some (.int (p5 + (-1) + (-1))))) (N) (va_up G y2 (.inl (1, (n4, .inl (upd (upd f4 (p5 + (-1)).toNatClampNeg (vp_nar .byte (f2 (-p0).toNatClampNeg))) (p5 + (-1) + (-1)).toNatClampNeg (vp_nar .byte (f13 (-p0).toNatClampNeg))))))) (0) (0)) ∧ (p6.toInt ≠ 0 → 0 ≤ (p5 + (-1) + (-1) + (-1)).toInt ∧ (p5 + (-1) + (-1) + (-1)).toInt < (n4 : Nat) ∧ K (.inl (some (.int (p5 + (-1) + (-1) + (-1))))) (N) (va_up G y2 (.inl (1, (n4, .inl (upd (upd (upd f4 (p5 + (-1)).toNatClampNeg (vp_nar .byte (f2 (-p0).toNatClampNeg))) (p5 + (-1) + (-1)).toNatClampNeg (vp_nar .byte (f13 (-p0).toNatClampNeg))) (p5 + (-1) + (-1) + (-1)).toNatClampNeg (vp_nar .byte 45)))))) (0) (0)))))) ∧ (p0.toInt ≤ (-100) → 2 < N ∧ ∃ (n24 : Nat) (f24 : Nat → Int32), G 2 = .inl (1, (n24, .inl f24)) ∧ 0 ≤ (((p0 / 100) * 100) - p0).toInt ∧ (((p0 / 100) * 100) - p0).toInt < (n24 : Nat) ∧ 5 ≤ y2 ∧ y2 < N ∧ ∃ (n26 : Nat) (f26 : Nat → Int32), G y2 = .inl (1, (n26, .inl f26)) ∧ 0 ≤ (p5 + (-1)).toInt ∧ (p5 + (-1)).toInt < (n26 : Nat) ∧ 3 < N ∧ ∃ (n30 : Nat) (f30 : Nat → Int32), (va_up G y2 (.inl (1, (n26, .inl (upd f26 (p5 + (-1)).toNatClampNeg (vp_nar .byte (f24 (((p0 / 100) * 100) - p0).toNatClampNeg))))))) 3 = .inl (1, (n30, .inl f30)) ∧ 0 ≤ (((p0 / 100) * 100) - p0).toInt ∧ (((p0 / 100) * 100) - p0).toInt < (n30 : Nat) ∧ 0 ≤ (p5 + (-1) + (-1)).toInt ∧ (p5 + (-1) + (-1)).toInt < (n26 : Nat) ∧ cT (1) sM_193 22 [(0, .int (p0 / 100)), (1, .int p1), (2, .ref y2), (5, .int (p5 + (-1) + (-1))), (6, .int p6)] [] (N) (va_up G y2 (.inl (1, (n26, .inl (upd (upd f26 (p5 + (-1)).toNatClampNeg (vp_nar .byte (f24 (((p0 / 100) * 100) - p0).toNatClampNeg))) (p5 + (-1) + (-1)).toNatClampNeg (vp_nar .byte (f30 (((p0 / 100) * 100) - p0).toNatClampNeg))))))) (fun r N1 G1 kc1 ks1 => K r N1 G1 (kc1) (ks1))))) : cT (1) sM_193 22 [(0, .int p0), (1, .int p1), (2, .ref y2), (5, .int p5), (6, .int p6)] [] N G K := by
  intro d dc ds P hP
  refine w_mv (pc1 := 23) (st1 := [.int p0]) rfl rfl rfl ?_
  refine w_mv (pc1 := 25) (st1 := [.int (-100), .int p0]) rfl rfl rfl ?_
  by_cases h1 : (-100) < p0.toInt
  ·
    replace hh := hh.1 h1
    refine w_igt_T (pc1 := 72) rfl rfl (show (-100) < p0.toInt from h1) ?_
    refine w_mv (pc1 := 73) (st1 := [.ref y2]) rfl rfl rfl ?_
    refine w_mv (pc1 := 76) (lv1 := [(5, .int (p5 + (-1))), (0, .int p0), (1, .int p1), (2, .ref y2), (6, .int p6)]) (st1 := [.ref y2]) rfl rfl rfl ?_
    refine w_mv (pc1 := 78) (st1 := [.int (p5 + (-1)), .ref y2]) rfl rfl rfl ?_
    refine w_mv (pc1 := 81) (st1 := [.ref 2, .int (p5 + (-1)), .ref y2]) rfl rfl rfl ?_
    refine w_mv (pc1 := 82) (st1 := [.int p0, .ref 2, .int (p5 + (-1)), .ref y2]) rfl rfl rfl ?_
    refine w_mv (pc1 := 83) (st1 := [.int (-p0), .ref 2, .int (p5 + (-1)), .ref y2]) rfl rfl rfl ?_
    obtain ⟨b2b, n2, f2, g2, hh⟩ := hh
    obtain ⟨q3a, q3b, hh⟩ := hh
    refine cw_bld (pc1 := 84) rfl (by omega) g2 q3a q3b rfl ?_
    obtain ⟨b4a, b4b, n4, f4, g4, hh⟩ := hh
    obtain ⟨q5a, q5b, hh⟩ := hh
    refine cw_bst (pc1 := 85) rfl (by omega) (by omega) g4 q5a q5b rfl ?_
    have g6 : (va_up G y2 (.inl (1, (n4, .inl (upd f4 (p5 + (-1)).toNatClampNeg (vp_nar .byte (f2 (-p0).toNatClampNeg))))))) 2 = .inl (1, (n2, .inl f2)) := (va_ne (by omega)).trans g2
    have g7 : (va_up G y2 (.inl (1, (n4, .inl (upd f4 (p5 + (-1)).toNatClampNeg (vp_nar .byte (f2 (-p0).toNatClampNeg))))))) y2 = .inl (1, (n4, .inl (upd f4 (p5 + (-1)).toNatClampNeg (vp_nar .byte (f2 (-p0).toNatClampNeg))))) := up_eq
    refine w_mv (pc1 := 86) (st1 := [.int p0]) rfl rfl rfl ?_
    refine w_mv (pc1 := 88) (st1 := [.int (-9), .int p0]) rfl rfl rfl ?_
    by_cases h8 : (-9) ≤ p0.toInt
    ·
      replace hh := hh.1 h8
      refine w_ige_T (pc1 := 104) rfl rfl (show (-9) ≤ p0.toInt from h8) ?_
      refine w_mv (pc1 := 106) (st1 := [.int p6]) rfl rfl rfl ?_
      by_cases h9 : p6.toInt = 0
      ·
        replace hh := hh.1 h9
        refine w_zeq_T (pc1 := 118) rfl rfl (show p6.toInt = 0 from h9) ?_
        refine w_mv (pc1 := 120) (st1 := [.int (p5 + (-1))]) rfl rfl rfl ?_
        refine sx_wp.stop rfl rfl rfl ?_
        exact c_acc (hP _ _ _ _ _ hh) (by omega) (by omega)
      ·
        replace hh := hh.2 h9
        refine w_zeq_F (pc1 := 109) rfl (by decide) rfl (show p6.toInt ≠ 0 from h9) ?_
        refine w_mv (pc1 := 110) (st1 := [.ref y2]) rfl rfl rfl ?_
        refine w_mv (pc1 := 113) (lv1 := [(5, .int (p5 + (-1) + (-1))), (0, .int p0), (1, .int p1), (2, .ref y2), (6, .int p6)]) (st1 := [.ref y2]) rfl rfl rfl ?_
        refine w_mv (pc1 := 115) (st1 := [.int (p5 + (-1) + (-1)), .ref y2]) rfl rfl rfl ?_
        refine w_mv (pc1 := 117) (st1 := [.int 45, .int (p5 + (-1) + (-1)), .ref y2]) rfl rfl rfl ?_
        obtain ⟨q10a, q10b, hh⟩ := hh
        refine cw_bst (pc1 := 118) rfl (by omega) (by omega) g7 q10a q10b rfl ?_
        rw [va_uu]
        have g11 : (va_up G y2 (.inl (1, (n4, .inl (upd (upd f4 (p5 + (-1)).toNatClampNeg (vp_nar .byte (f2 (-p0).toNatClampNeg))) (p5 + (-1) + (-1)).toNatClampNeg (vp_nar .byte 45)))))) 2 = .inl (1, (n2, .inl f2)) := (va_ne (by omega)).trans ((va_ne (by omega)).symm.trans g6)
        have g12 : (va_up G y2 (.inl (1, (n4, .inl (upd (upd f4 (p5 + (-1)).toNatClampNeg (vp_nar .byte (f2 (-p0).toNatClampNeg))) (p5 + (-1) + (-1)).toNatClampNeg (vp_nar .byte 45)))))) y2 = .inl (1, (n4, .inl (upd (upd f4 (p5 + (-1)).toNatClampNeg (vp_nar .byte (f2 (-p0).toNatClampNeg))) (p5 + (-1) + (-1)).toNatClampNeg (vp_nar .byte 45)))) := up_eq
        refine w_mv (pc1 := 120) (st1 := [.int (p5 + (-1) + (-1))]) rfl rfl rfl ?_
        refine sx_wp.stop rfl rfl rfl ?_
        exact c_acc (hP _ _ _ _ _ hh) (by omega) (by omega)
    ·
      replace hh := hh.2 (Int.not_le.mp h8)
      refine w_ige_F (pc1 := 91) rfl (by decide) rfl (show p0.toInt < (-9) from (Int.not_le.mp h8)) ?_
      refine w_mv (pc1 := 92) (st1 := [.ref y2]) rfl rfl rfl ?_
      refine w_mv (pc1 := 95) (lv1 := [(5, .int (p5 + (-1) + (-1))), (0, .int p0), (1, .int p1), (2, .ref y2), (6, .int p6)]) (st1 := [.ref y2]) rfl rfl rfl ?_
      refine w_mv (pc1 := 97) (st1 := [.int (p5 + (-1) + (-1)), .ref y2]) rfl rfl rfl ?_
      refine w_mv (pc1 := 100) (st1 := [.ref 3, .int (p5 + (-1) + (-1)), .ref y2]) rfl rfl rfl ?_
      refine w_mv (pc1 := 101) (st1 := [.int p0, .ref 3, .int (p5 + (-1) + (-1)), .ref y2]) rfl rfl rfl ?_
      refine w_mv (pc1 := 102) (st1 := [.int (-p0), .ref 3, .int (p5 + (-1) + (-1)), .ref y2]) rfl rfl rfl ?_
      obtain ⟨b13b, n13, f13, g13, hh⟩ := hh
      obtain ⟨q14a, q14b, hh⟩ := hh
      refine cw_bld (pc1 := 103) rfl (by omega) g13 q14a q14b rfl ?_
      obtain ⟨q15a, q15b, hh⟩ := hh
      refine cw_bst (pc1 := 104) rfl (by omega) (by omega) g7 q15a q15b rfl ?_
      rw [va_uu]
      have g16 : (va_up G y2 (.inl (1, (n4, .inl (upd (upd f4 (p5 + (-1)).toNatClampNeg (vp_nar .byte (f2 (-p0).toNatClampNeg))) (p5 + (-1) + (-1)).toNatClampNeg (vp_nar .byte (f13 (-p0).toNatClampNeg))))))) 2 = .inl (1, (n2, .inl f2)) := (va_ne (by omega)).trans ((va_ne (by omega)).symm.trans g6)
      have g17 : (va_up G y2 (.inl (1, (n4, .inl (upd (upd f4 (p5 + (-1)).toNatClampNeg (vp_nar .byte (f2 (-p0).toNatClampNeg))) (p5 + (-1) + (-1)).toNatClampNeg (vp_nar .byte (f13 (-p0).toNatClampNeg))))))) 3 = .inl (1, (n13, .inl f13)) := (va_ne (by omega)).trans ((va_ne (by omega)).symm.trans g13)
      have g18 : (va_up G y2 (.inl (1, (n4, .inl (upd (upd f4 (p5 + (-1)).toNatClampNeg (vp_nar .byte (f2 (-p0).toNatClampNeg))) (p5 + (-1) + (-1)).toNatClampNeg (vp_nar .byte (f13 (-p0).toNatClampNeg))))))) y2 = .inl (1, (n4, .inl (upd (upd f4 (p5 + (-1)).toNatClampNeg (vp_nar .byte (f2 (-p0).toNatClampNeg))) (p5 + (-1) + (-1)).toNatClampNeg (vp_nar .byte (f13 (-p0).toNatClampNeg))))) := up_eq
      refine w_mv (pc1 := 106) (st1 := [.int p6]) rfl rfl rfl ?_
      by_cases h19 : p6.toInt = 0
      ·
        replace hh := hh.1 h19
        refine w_zeq_T (pc1 := 118) rfl rfl (show p6.toInt = 0 from h19) ?_
        refine w_mv (pc1 := 120) (st1 := [.int (p5 + (-1) + (-1))]) rfl rfl rfl ?_
        refine sx_wp.stop rfl rfl rfl ?_
        exact c_acc (hP _ _ _ _ _ hh) (by omega) (by omega)
      ·
        replace hh := hh.2 h19
        refine w_zeq_F (pc1 := 109) rfl (by decide) rfl (show p6.toInt ≠ 0 from h19) ?_
        refine w_mv (pc1 := 110) (st1 := [.ref y2]) rfl rfl rfl ?_
        refine w_mv (pc1 := 113) (lv1 := [(5, .int (p5 + (-1) + (-1) + (-1))), (0, .int p0), (1, .int p1), (2, .ref y2), (6, .int p6)]) (st1 := [.ref y2]) rfl rfl rfl ?_
        refine w_mv (pc1 := 115) (st1 := [.int (p5 + (-1) + (-1) + (-1)), .ref y2]) rfl rfl rfl ?_
        refine w_mv (pc1 := 117) (st1 := [.int 45, .int (p5 + (-1) + (-1) + (-1)), .ref y2]) rfl rfl rfl ?_
        obtain ⟨q20a, q20b, hh⟩ := hh
        refine cw_bst (pc1 := 118) rfl (by omega) (by omega) g18 q20a q20b rfl ?_
        rw [va_uu]
        have g21 : (va_up G y2 (.inl (1, (n4, .inl (upd (upd (upd f4 (p5 + (-1)).toNatClampNeg (vp_nar .byte (f2 (-p0).toNatClampNeg))) (p5 + (-1) + (-1)).toNatClampNeg (vp_nar .byte (f13 (-p0).toNatClampNeg))) (p5 + (-1) + (-1) + (-1)).toNatClampNeg (vp_nar .byte 45)))))) 2 = .inl (1, (n2, .inl f2)) := (va_ne (by omega)).trans ((va_ne (by omega)).symm.trans g16)
        have g22 : (va_up G y2 (.inl (1, (n4, .inl (upd (upd (upd f4 (p5 + (-1)).toNatClampNeg (vp_nar .byte (f2 (-p0).toNatClampNeg))) (p5 + (-1) + (-1)).toNatClampNeg (vp_nar .byte (f13 (-p0).toNatClampNeg))) (p5 + (-1) + (-1) + (-1)).toNatClampNeg (vp_nar .byte 45)))))) 3 = .inl (1, (n13, .inl f13)) := (va_ne (by omega)).trans ((va_ne (by omega)).symm.trans g17)
        have g23 : (va_up G y2 (.inl (1, (n4, .inl (upd (upd (upd f4 (p5 + (-1)).toNatClampNeg (vp_nar .byte (f2 (-p0).toNatClampNeg))) (p5 + (-1) + (-1)).toNatClampNeg (vp_nar .byte (f13 (-p0).toNatClampNeg))) (p5 + (-1) + (-1) + (-1)).toNatClampNeg (vp_nar .byte 45)))))) y2 = .inl (1, (n4, .inl (upd (upd (upd f4 (p5 + (-1)).toNatClampNeg (vp_nar .byte (f2 (-p0).toNatClampNeg))) (p5 + (-1) + (-1)).toNatClampNeg (vp_nar .byte (f13 (-p0).toNatClampNeg))) (p5 + (-1) + (-1) + (-1)).toNatClampNeg (vp_nar .byte 45)))) := up_eq
        refine w_mv (pc1 := 120) (st1 := [.int (p5 + (-1) + (-1) + (-1))]) rfl rfl rfl ?_
        refine sx_wp.stop rfl rfl rfl ?_
        exact c_acc (hP _ _ _ _ _ hh) (by omega) (by omega)
  ·
    replace hh := hh.2 (Int.not_lt.mp h1)
    refine w_igt_F (pc1 := 28) rfl (by decide) rfl (show p0.toInt ≤ (-100) from (Int.not_lt.mp h1)) ?_
    refine w_mv (pc1 := 29) (st1 := [.int p0]) rfl rfl rfl ?_
    refine w_mv (pc1 := 31) (st1 := [.int 100, .int p0]) rfl rfl rfl ?_
    refine cw_idiv (pc1 := 32) rfl (by decide) rfl ?_
    refine w_mv (pc1 := 33) (lv1 := [(3, .int (p0 / 100)), (0, .int p0), (1, .int p1), (2, .ref y2), (5, .int p5), (6, .int p6)]) (st1 := []) rfl rfl rfl ?_
    refine w_mv (pc1 := 34) (st1 := [.int (p0 / 100)]) rfl rfl rfl ?_
    refine w_mv (pc1 := 36) (st1 := [.int 100, .int (p0 / 100)]) rfl rfl rfl ?_
    refine w_mv (pc1 := 37) (st1 := [.int ((p0 / 100) * 100)]) rfl rfl rfl ?_
    refine w_mv (pc1 := 38) (st1 := [.int p0, .int ((p0 / 100) * 100)]) rfl rfl rfl ?_
    refine w_mv (pc1 := 39) (st1 := [.int (((p0 / 100) * 100) - p0)]) rfl rfl rfl ?_
    refine w_mv (pc1 := 41) (lv1 := [(4, .int (((p0 / 100) * 100) - p0)), (3, .int (p0 / 100)), (0, .int p0), (1, .int p1), (2, .ref y2), (5, .int p5), (6, .int p6)]) (st1 := []) rfl rfl rfl ?_
    refine w_mv (pc1 := 42) (st1 := [.int (p0 / 100)]) rfl rfl rfl ?_
    refine w_mv (pc1 := 43) (lv1 := [(0, .int (p0 / 100)), (4, .int (((p0 / 100) * 100) - p0)), (3, .int (p0 / 100)), (1, .int p1), (2, .ref y2), (5, .int p5), (6, .int p6)]) (st1 := []) rfl rfl rfl ?_
    refine w_mv (pc1 := 44) (st1 := [.ref y2]) rfl rfl rfl ?_
    refine w_mv (pc1 := 47) (lv1 := [(5, .int (p5 + (-1))), (0, .int (p0 / 100)), (4, .int (((p0 / 100) * 100) - p0)), (3, .int (p0 / 100)), (1, .int p1), (2, .ref y2), (6, .int p6)]) (st1 := [.ref y2]) rfl rfl rfl ?_
    refine w_mv (pc1 := 49) (st1 := [.int (p5 + (-1)), .ref y2]) rfl rfl rfl ?_
    refine w_mv (pc1 := 52) (st1 := [.ref 2, .int (p5 + (-1)), .ref y2]) rfl rfl rfl ?_
    refine w_mv (pc1 := 54) (st1 := [.int (((p0 / 100) * 100) - p0), .ref 2, .int (p5 + (-1)), .ref y2]) rfl rfl rfl ?_
    obtain ⟨b24b, n24, f24, g24, hh⟩ := hh
    obtain ⟨q25a, q25b, hh⟩ := hh
    refine cw_bld (pc1 := 55) rfl (by omega) g24 q25a q25b rfl ?_
    obtain ⟨b26a, b26b, n26, f26, g26, hh⟩ := hh
    obtain ⟨q27a, q27b, hh⟩ := hh
    refine cw_bst (pc1 := 56) rfl (by omega) (by omega) g26 q27a q27b rfl ?_
    have g28 : (va_up G y2 (.inl (1, (n26, .inl (upd f26 (p5 + (-1)).toNatClampNeg (vp_nar .byte (f24 (((p0 / 100) * 100) - p0).toNatClampNeg))))))) 2 = .inl (1, (n24, .inl f24)) := (va_ne (by omega)).trans g24
    have g29 : (va_up G y2 (.inl (1, (n26, .inl (upd f26 (p5 + (-1)).toNatClampNeg (vp_nar .byte (f24 (((p0 / 100) * 100) - p0).toNatClampNeg))))))) y2 = .inl (1, (n26, .inl (upd f26 (p5 + (-1)).toNatClampNeg (vp_nar .byte (f24 (((p0 / 100) * 100) - p0).toNatClampNeg))))) := up_eq
    refine w_mv (pc1 := 57) (st1 := [.ref y2]) rfl rfl rfl ?_
    refine w_mv (pc1 := 60) (lv1 := [(5, .int (p5 + (-1) + (-1))), (0, .int (p0 / 100)), (4, .int (((p0 / 100) * 100) - p0)), (3, .int (p0 / 100)), (1, .int p1), (2, .ref y2), (6, .int p6)]) (st1 := [.ref y2]) rfl rfl rfl ?_
    refine w_mv (pc1 := 62) (st1 := [.int (p5 + (-1) + (-1)), .ref y2]) rfl rfl rfl ?_
    refine w_mv (pc1 := 65) (st1 := [.ref 3, .int (p5 + (-1) + (-1)), .ref y2]) rfl rfl rfl ?_
    refine w_mv (pc1 := 67) (st1 := [.int (((p0 / 100) * 100) - p0), .ref 3, .int (p5 + (-1) + (-1)), .ref y2]) rfl rfl rfl ?_
    obtain ⟨b30b, n30, f30, g30, hh⟩ := hh
    obtain ⟨q31a, q31b, hh⟩ := hh
    refine cw_bld (pc1 := 68) rfl (by omega) g30 q31a q31b rfl ?_
    obtain ⟨q32a, q32b, hh⟩ := hh
    refine cw_bst (pc1 := 69) rfl (by omega) (by omega) g29 q32a q32b rfl ?_
    rw [va_uu]
    have g33 : (va_up G y2 (.inl (1, (n26, .inl (upd (upd f26 (p5 + (-1)).toNatClampNeg (vp_nar .byte (f24 (((p0 / 100) * 100) - p0).toNatClampNeg))) (p5 + (-1) + (-1)).toNatClampNeg (vp_nar .byte (f30 (((p0 / 100) * 100) - p0).toNatClampNeg))))))) 2 = .inl (1, (n24, .inl f24)) := (va_ne (by omega)).trans ((va_ne (by omega)).symm.trans g28)
    have g34 : (va_up G y2 (.inl (1, (n26, .inl (upd (upd f26 (p5 + (-1)).toNatClampNeg (vp_nar .byte (f24 (((p0 / 100) * 100) - p0).toNatClampNeg))) (p5 + (-1) + (-1)).toNatClampNeg (vp_nar .byte (f30 (((p0 / 100) * 100) - p0).toNatClampNeg))))))) 3 = .inl (1, (n30, .inl f30)) := (va_ne (by omega)).trans ((va_ne (by omega)).symm.trans g30)
    have g35 : (va_up G y2 (.inl (1, (n26, .inl (upd (upd f26 (p5 + (-1)).toNatClampNeg (vp_nar .byte (f24 (((p0 / 100) * 100) - p0).toNatClampNeg))) (p5 + (-1) + (-1)).toNatClampNeg (vp_nar .byte (f30 (((p0 / 100) * 100) - p0).toNatClampNeg))))))) y2 = .inl (1, (n26, .inl (upd (upd f26 (p5 + (-1)).toNatClampNeg (vp_nar .byte (f24 (((p0 / 100) * 100) - p0).toNatClampNeg))) (p5 + (-1) + (-1)).toNatClampNeg (vp_nar .byte (f30 (((p0 / 100) * 100) - p0).toNatClampNeg))))) := up_eq
    refine w_mv (pc1 := 22) (st1 := []) rfl rfl rfl ?_
    refine w_wk (l1 := [(0, .int (p0 / 100)), (1, .int p1), (2, .ref y2), (5, .int (p5 + (-1) + (-1))), (6, .int p6)]) rfl ⟨rfl, rfl, rfl, rfl, rfl, trivial⟩ ?_
    refine hh d _ _ P (fun r N1 G1 kc1 ks1 q => ?_)
    exact c_acc (hP r N1 G1 _ _ q) (by omega) (by omega)
set_option maxRecDepth 20000 in
set_option maxHeartbeats 4000000 in
theorem k_195_0 {x0 : Nat} {p1 : Int32} {N : Nat} {G : Nat → sx_C} {K : Option Value ⊕ Nat → Nat → (Nat → sx_C) → Nat → Nat → Prop} (hh : 5 ≤ x0 ∧ x0 < N ∧ ∃ (r1_0 : Nat) (i1_1 : Int32) (i1_2 : Int32) (i1_3 : Int32), G x0 = .inr (.inl (14, [.ref r1_0, .int i1_1, .int i1_2, .int i1_3])) ∧ cT (4) sM_183 0 [(0, .ref x0), (1, .int (i1_3 + 1))] [] (N) G (fun r2 N2 G2 kc2 ks2 => r2 = .inl none ∧ 5 ≤ x0 ∧ x0 < N2 ∧ ∃ (r3_0 : Nat) (i3_1 : Int32) (i3_2 : Int32) (i3_3 : Int32), G2 x0 = .inr (.inl (14, [.ref r3_0, .int i3_1, .int i3_2, .int i3_3])) ∧ ((i3_1.toInt ≠ 0 → ((i3_1.toInt ≠ 0 → False) ∧ (i3_1.toInt = 0 → False))) ∧ (i3_1.toInt = 0 → ((255 < p1.toInt → ((i3_1.toInt ≠ 0 → False) ∧ (i3_1.toInt = 0 → False))) ∧ (p1.toInt ≤ 255 → 5 ≤ r3_0 ∧ r3_0 < N2 ∧ ∃ (n9 : Nat) (f9 : Nat → Int32), (va_up G2 x0 (.inr (.inl (14, [.ref r3_0, .int i3_1, .int i3_2, .int (i3_3 + 1)])))) r3_0 = .inl (1, (n9, .inl f9)) ∧ 0 ≤ i3_3.toInt ∧ i3_3.toInt < (n9 : Nat) ∧ K (.inl (some (.ref x0))) (N2) (va_up (va_up G2 x0 (.inr (.inl (14, [.ref r3_0, .int i3_1, .int i3_2, .int (i3_3 + 1)])))) r3_0 (.inl (1, (n9, .inl (upd f9 i3_3.toNatClampNeg (vp_nar .byte (Int8.toInt32 (Int32.toInt8 p1)))))))) (kc2) (ks2))))))) : cT (6) sM_195 0 [(0, .ref x0), (1, .int p1)] [] N G K := by
  intro d dc ds P hP
  refine w_mv (pc1 := 1) (st1 := [.ref x0]) rfl rfl rfl ?_
  refine w_mv (pc1 := 2) (st1 := [.int p1, .ref x0]) rfl rfl rfl ?_
  obtain ⟨b1a, b1b, r1_0, i1_1, i1_2, i1_3, g1, hh⟩ := hh
  refine w_call (M' := sM_196) (vals := [.ref x0, .int p1]) (rest := []) (lv' := [(0, .ref x0), (1, .int p1)]) rfl rfl rfl rfl rfl rfl (cH_rcvS (by omega) (by omega) g1 rfl) rfl rfl rfl ?_
  refine w_mv (pc1 := 1) (st1 := [.ref x0]) rfl rfl rfl ?_
  refine w_mv (pc1 := 2) (st1 := [.ref x0, .ref x0]) rfl rfl rfl ?_
  refine cw_gf (v := .int i1_3) (pc1 := 5) rfl (by omega) (by omega) g1 rfl rfl ?_
  refine w_mv (pc1 := 6) (st1 := [.int 1, .int i1_3, .ref x0]) rfl rfl rfl ?_
  refine w_mv (pc1 := 7) (st1 := [.int (i1_3 + 1), .ref x0]) rfl rfl rfl ?_
  refine w_call (M' := sM_183) (vals := [.ref x0, .int (i1_3 + 1)]) (rest := []) (lv' := [(0, .ref x0), (1, .int (i1_3 + 1))]) rfl rfl rfl rfl rfl rfl (cH_rcv (by omega) (by omega) g1) rfl rfl rfl ?_
  refine hh _ _ _ _ (fun r2 N2 G2 kc2 ks2 hh => ?_)
  obtain ⟨er2, hh⟩ := hh
  subst er2
  refine w_kv (pc1 := 10) rfl ?_
  refine w_mv (pc1 := 11) (st1 := [.ref x0]) rfl rfl rfl ?_
  obtain ⟨b3a, b3b, r3_0, i3_1, i3_2, i3_3, g3, hh⟩ := hh
  refine w_call (M' := sM_186) (vals := [.ref x0]) (rest := []) (lv' := [(0, .ref x0)]) rfl rfl rfl rfl rfl rfl (cH_rcv (by omega) (by omega) g3) rfl rfl rfl ?_
  refine w_mv (pc1 := 3) (st1 := [.int 1]) rfl rfl rfl ?_
  refine w_mv (pc1 := 6) (st1 := []) rfl rfl rfl ?_
  refine w_mv (pc1 := 7) (st1 := [.ref x0]) rfl rfl rfl ?_
  refine cw_gf (v := .int i3_1) (pc1 := 10) rfl (by omega) (by omega) g3 rfl rfl ?_
  by_cases h4 : i3_1.toInt = 0
  ·
    replace hh := hh.2 h4
    refine w_zne_F (pc1 := 13) rfl (by decide) rfl (show i3_1.toInt = 0 from h4) ?_
    refine w_mv (pc1 := 14) (st1 := [.int 1]) rfl rfl rfl ?_
    refine w_mv (pc1 := 18) (st1 := [.int 1]) rfl rfl rfl ?_
    refine w_iret (pc1 := 14) rfl rfl rfl rfl ?_
    refine w_mv (pc1 := 17) (st1 := []) rfl rfl rfl ?_
    refine w_mv (pc1 := 18) (st1 := [.int p1]) rfl rfl rfl ?_
    refine w_call (M' := sM_197) (vals := [.int p1]) (rest := []) (lv' := [(0, .int p1)]) rfl rfl rfl rfl rfl rfl rfl rfl rfl rfl ?_
    refine w_mv (pc1 := 1) (st1 := [.int p1]) rfl rfl rfl ?_
    refine w_mv (pc1 := 4) (st1 := [.int 255, .int p1]) rfl rfl rfl ?_
    by_cases h5 : 255 < p1.toInt
    ·
      replace hh := hh.1 h5
      refine w_igt_T (pc1 := 11) rfl rfl (show 255 < p1.toInt from h5) ?_
      refine w_mv (pc1 := 12) (st1 := [.int 0]) rfl rfl rfl ?_
      refine w_iret (pc1 := 21) rfl rfl rfl rfl ?_
      refine w_mv (pc1 := 45) (st1 := []) rfl rfl rfl ?_
      refine w_mv (pc1 := 46) (st1 := [.ref x0]) rfl rfl rfl ?_
      refine w_call (M' := sM_186) (vals := [.ref x0]) (rest := []) (lv' := [(0, .ref x0)]) rfl rfl rfl rfl rfl rfl (cH_rcv (by omega) (by omega) g3) rfl rfl rfl ?_
      refine w_mv (pc1 := 3) (st1 := [.int 1]) rfl rfl rfl ?_
      refine w_mv (pc1 := 6) (st1 := []) rfl rfl rfl ?_
      refine w_mv (pc1 := 7) (st1 := [.ref x0]) rfl rfl rfl ?_
      refine cw_gf (v := .int i3_1) (pc1 := 10) rfl (by omega) (by omega) g3 rfl rfl ?_
      by_cases h6 : i3_1.toInt = 0
      ·
        replace hh := hh.2 h6
        refine w_zne_F (pc1 := 13) rfl (by decide) rfl (show i3_1.toInt = 0 from h6) ?_
        refine w_mv (pc1 := 14) (st1 := [.int 1]) rfl rfl rfl ?_
        refine w_mv (pc1 := 18) (st1 := [.int 1]) rfl rfl rfl ?_
        refine w_iret (pc1 := 49) rfl rfl rfl rfl ?_
        refine w_mv (pc1 := 52) (st1 := []) rfl rfl rfl ?_
        refine w_mv (pc1 := 53) (st1 := [.ref x0]) rfl rfl rfl ?_
        exact hh.elim
      ·
        replace hh := hh.1 h6
        refine w_zne_T (pc1 := 17) rfl rfl (show i3_1.toInt ≠ 0 from h6) ?_
        refine w_mv (pc1 := 18) (st1 := [.int 0]) rfl rfl rfl ?_
        refine w_iret (pc1 := 49) rfl rfl rfl rfl ?_
        refine w_mv (pc1 := 56) (st1 := []) rfl rfl rfl ?_
        refine w_mv (pc1 := 57) (st1 := [.ref x0]) rfl rfl rfl ?_
        refine cw_gf (v := .ref r3_0) (pc1 := 60) rfl (by omega) (by omega) g3 rfl rfl ?_
        refine w_mv (pc1 := 61) (st1 := [.ref x0, .ref r3_0]) rfl rfl rfl ?_
        refine w_mv (pc1 := 62) (st1 := [.ref x0, .ref x0, .ref r3_0]) rfl rfl rfl ?_
        refine cw_gf (v := .int i3_3) (pc1 := 65) rfl (by omega) (by omega) g3 rfl rfl ?_
        refine w_mv (pc1 := 66) (st1 := [.int i3_3, .ref x0, .int i3_3, .ref r3_0]) rfl rfl rfl ?_
        refine w_mv (pc1 := 67) (st1 := [.int 1, .int i3_3, .ref x0, .int i3_3, .ref r3_0]) rfl rfl rfl ?_
        refine w_mv (pc1 := 68) (st1 := [.int (i3_3 + 1), .ref x0, .int i3_3, .ref r3_0]) rfl rfl rfl ?_
        refine cw_pf (c1 := .inr (.inl (14, [.ref r3_0, .int i3_1, .int i3_2, .int (i3_3 + 1)]))) (pc1 := 71) rfl (by omega) (by omega) g3 rfl rfl rfl rfl ?_
        have g7 : (va_up G2 x0 (.inr (.inl (14, [.ref r3_0, .int i3_1, .int i3_2, .int (i3_3 + 1)])))) x0 = .inr (.inl (14, [.ref r3_0, .int i3_1, .int i3_2, .int (i3_3 + 1)])) := up_eq
        refine w_mv (pc1 := 72) (st1 := [.int p1, .int i3_3, .ref r3_0]) rfl rfl rfl ?_
        exact hh.elim
    ·
      replace hh := hh.2 (Int.not_lt.mp h5)
      refine w_igt_F (pc1 := 7) rfl (by decide) rfl (show p1.toInt ≤ 255 from (Int.not_lt.mp h5)) ?_
      refine w_mv (pc1 := 8) (st1 := [.int 1]) rfl rfl rfl ?_
      refine w_mv (pc1 := 12) (st1 := [.int 1]) rfl rfl rfl ?_
      refine w_iret (pc1 := 21) rfl rfl rfl rfl ?_
      refine w_mv (pc1 := 24) (st1 := []) rfl rfl rfl ?_
      refine w_mv (pc1 := 25) (st1 := [.ref x0]) rfl rfl rfl ?_
      refine cw_gf (v := .ref r3_0) (pc1 := 28) rfl (by omega) (by omega) g3 rfl rfl ?_
      refine w_mv (pc1 := 29) (st1 := [.ref x0, .ref r3_0]) rfl rfl rfl ?_
      refine w_mv (pc1 := 30) (st1 := [.ref x0, .ref x0, .ref r3_0]) rfl rfl rfl ?_
      refine cw_gf (v := .int i3_3) (pc1 := 33) rfl (by omega) (by omega) g3 rfl rfl ?_
      refine w_mv (pc1 := 34) (st1 := [.int i3_3, .ref x0, .int i3_3, .ref r3_0]) rfl rfl rfl ?_
      refine w_mv (pc1 := 35) (st1 := [.int 1, .int i3_3, .ref x0, .int i3_3, .ref r3_0]) rfl rfl rfl ?_
      refine w_mv (pc1 := 36) (st1 := [.int (i3_3 + 1), .ref x0, .int i3_3, .ref r3_0]) rfl rfl rfl ?_
      refine cw_pf (c1 := .inr (.inl (14, [.ref r3_0, .int i3_1, .int i3_2, .int (i3_3 + 1)]))) (pc1 := 39) rfl (by omega) (by omega) g3 rfl rfl rfl rfl ?_
      have g8 : (va_up G2 x0 (.inr (.inl (14, [.ref r3_0, .int i3_1, .int i3_2, .int (i3_3 + 1)])))) x0 = .inr (.inl (14, [.ref r3_0, .int i3_1, .int i3_2, .int (i3_3 + 1)])) := up_eq
      refine w_mv (pc1 := 40) (st1 := [.int p1, .int i3_3, .ref r3_0]) rfl rfl rfl ?_
      refine w_mv (pc1 := 41) (st1 := [.int (Int8.toInt32 (Int32.toInt8 p1)), .int i3_3, .ref r3_0]) rfl rfl rfl ?_
      obtain ⟨b9a, b9b, n9, f9, g9, hh⟩ := hh
      obtain ⟨q10a, q10b, hh⟩ := hh
      refine cw_bst (pc1 := 42) rfl (by omega) (by omega) g9 q10a q10b rfl ?_
      have g11 : (va_up (va_up G2 x0 (.inr (.inl (14, [.ref r3_0, .int i3_1, .int i3_2, .int (i3_3 + 1)])))) r3_0 (.inl (1, (n9, .inl (upd f9 i3_3.toNatClampNeg (vp_nar .byte (Int8.toInt32 (Int32.toInt8 p1)))))))) x0 = .inr (.inl (14, [.ref r3_0, .int i3_1, .int i3_2, .int (i3_3 + 1)])) := (va_ne (ne_oa g8 g9)).trans g8
      have g12 : (va_up (va_up G2 x0 (.inr (.inl (14, [.ref r3_0, .int i3_1, .int i3_2, .int (i3_3 + 1)])))) r3_0 (.inl (1, (n9, .inl (upd f9 i3_3.toNatClampNeg (vp_nar .byte (Int8.toInt32 (Int32.toInt8 p1)))))))) r3_0 = .inl (1, (n9, .inl (upd f9 i3_3.toNatClampNeg (vp_nar .byte (Int8.toInt32 (Int32.toInt8 p1)))))) := up_eq
      refine w_mv (pc1 := 75) (st1 := []) rfl rfl rfl ?_
      refine w_mv (pc1 := 76) (st1 := [.ref x0]) rfl rfl rfl ?_
      refine w_aret (pc1 := 5) rfl rfl rfl rfl ?_
      refine w_mv (pc1 := 6) (st1 := []) rfl rfl rfl ?_
      refine w_mv (pc1 := 7) (st1 := [.ref x0]) rfl rfl rfl ?_
      refine sx_wp.stop rfl rfl rfl ?_
      exact c_acc (hP _ _ _ _ _ hh) (by omega) (by omega)
  ·
    replace hh := hh.1 h4
    refine w_zne_T (pc1 := 17) rfl rfl (show i3_1.toInt ≠ 0 from h4) ?_
    refine w_mv (pc1 := 18) (st1 := [.int 0]) rfl rfl rfl ?_
    refine w_iret (pc1 := 14) rfl rfl rfl rfl ?_
    refine w_mv (pc1 := 45) (st1 := []) rfl rfl rfl ?_
    refine w_mv (pc1 := 46) (st1 := [.ref x0]) rfl rfl rfl ?_
    refine w_call (M' := sM_186) (vals := [.ref x0]) (rest := []) (lv' := [(0, .ref x0)]) rfl rfl rfl rfl rfl rfl (cH_rcv (by omega) (by omega) g3) rfl rfl rfl ?_
    refine w_mv (pc1 := 3) (st1 := [.int 1]) rfl rfl rfl ?_
    refine w_mv (pc1 := 6) (st1 := []) rfl rfl rfl ?_
    refine w_mv (pc1 := 7) (st1 := [.ref x0]) rfl rfl rfl ?_
    refine cw_gf (v := .int i3_1) (pc1 := 10) rfl (by omega) (by omega) g3 rfl rfl ?_
    by_cases h13 : i3_1.toInt = 0
    ·
      replace hh := hh.2 h13
      refine w_zne_F (pc1 := 13) rfl (by decide) rfl (show i3_1.toInt = 0 from h13) ?_
      refine w_mv (pc1 := 14) (st1 := [.int 1]) rfl rfl rfl ?_
      refine w_mv (pc1 := 18) (st1 := [.int 1]) rfl rfl rfl ?_
      refine w_iret (pc1 := 49) rfl rfl rfl rfl ?_
      refine w_mv (pc1 := 52) (st1 := []) rfl rfl rfl ?_
      refine w_mv (pc1 := 53) (st1 := [.ref x0]) rfl rfl rfl ?_
      exact hh.elim
    ·
      replace hh := hh.1 h13
      refine w_zne_T (pc1 := 17) rfl rfl (show i3_1.toInt ≠ 0 from h13) ?_
      refine w_mv (pc1 := 18) (st1 := [.int 0]) rfl rfl rfl ?_
      refine w_iret (pc1 := 49) rfl rfl rfl rfl ?_
      refine w_mv (pc1 := 56) (st1 := []) rfl rfl rfl ?_
      refine w_mv (pc1 := 57) (st1 := [.ref x0]) rfl rfl rfl ?_
      refine cw_gf (v := .ref r3_0) (pc1 := 60) rfl (by omega) (by omega) g3 rfl rfl ?_
      refine w_mv (pc1 := 61) (st1 := [.ref x0, .ref r3_0]) rfl rfl rfl ?_
      refine w_mv (pc1 := 62) (st1 := [.ref x0, .ref x0, .ref r3_0]) rfl rfl rfl ?_
      refine cw_gf (v := .int i3_3) (pc1 := 65) rfl (by omega) (by omega) g3 rfl rfl ?_
      refine w_mv (pc1 := 66) (st1 := [.int i3_3, .ref x0, .int i3_3, .ref r3_0]) rfl rfl rfl ?_
      refine w_mv (pc1 := 67) (st1 := [.int 1, .int i3_3, .ref x0, .int i3_3, .ref r3_0]) rfl rfl rfl ?_
      refine w_mv (pc1 := 68) (st1 := [.int (i3_3 + 1), .ref x0, .int i3_3, .ref r3_0]) rfl rfl rfl ?_
      refine cw_pf (c1 := .inr (.inl (14, [.ref r3_0, .int i3_1, .int i3_2, .int (i3_3 + 1)]))) (pc1 := 71) rfl (by omega) (by omega) g3 rfl rfl rfl rfl ?_
      have g14 : (va_up G2 x0 (.inr (.inl (14, [.ref r3_0, .int i3_1, .int i3_2, .int (i3_3 + 1)])))) x0 = .inr (.inl (14, [.ref r3_0, .int i3_1, .int i3_2, .int (i3_3 + 1)])) := up_eq
      refine w_mv (pc1 := 72) (st1 := [.int p1, .int i3_3, .ref r3_0]) rfl rfl rfl ?_
      exact hh.elim
set_option maxRecDepth 20000 in
set_option maxHeartbeats 4000000 in
theorem k_198_0 {x0 : Nat} {p1 : Int32} {N : Nat} {G : Nat → sx_C} {K : Option Value ⊕ Nat → Nat → (Nat → sx_C) → Nat → Nat → Prop} (hh : 5 ≤ x0 ∧ x0 < N ∧ ∃ (r1_0 : Nat) (i1_1 : Int32) (i1_2 : Int32) (i1_3 : Int32), G x0 = .inr (.inl (14, [.ref r1_0, .int i1_1, .int i1_2, .int i1_3])) ∧ 5 ≤ r1_0 ∧ r1_0 < N ∧ ∃ (n2 : Nat) (f2 : Nat → Int32), G r1_0 = .inl (1, (n2, .inl f2)) ∧ (((c_shr (Int32.ofNat n2) i1_1).toInt < i1_3.toInt → 0 ≤ p1.toInt ∧ p1.toInt < (c_shr (Int32.ofNat n2) i1_1).toInt ∧ ((i1_1.toInt ≠ 0 → False) ∧ (i1_1.toInt = 0 → 0 ≤ p1.toInt ∧ p1.toInt < (n2 : Nat) ∧ K (.inl (some (.int (UInt32.toInt32 (Int32.toUInt32 (f2 p1.toNatClampNeg &&& 255) % 65536))))) (N) G (0) (0)))) ∧ (i1_3.toInt ≤ (c_shr (Int32.ofNat n2) i1_1).toInt → 0 ≤ p1.toInt ∧ p1.toInt < i1_3.toInt ∧ ((i1_1.toInt ≠ 0 → False) ∧ (i1_1.toInt = 0 → 0 ≤ p1.toInt ∧ p1.toInt < (n2 : Nat) ∧ K (.inl (some (.int (UInt32.toInt32 (Int32.toUInt32 (f2 p1.toNatClampNeg &&& 255) % 65536))))) (N) G (0) (0)))))) : cT (4) sM_198 0 [(0, .ref x0), (1, .int p1)] [] N G K := by
  intro d dc ds P hP
  refine w_mv (pc1 := 1) (st1 := [.ref x0]) rfl rfl rfl ?_
  refine w_mv (pc1 := 2) (st1 := [.int p1, .ref x0]) rfl rfl rfl ?_
  obtain ⟨b1a, b1b, r1_0, i1_1, i1_2, i1_3, g1, hh⟩ := hh
  refine w_call (M' := sM_199) (vals := [.ref x0, .int p1]) (rest := []) (lv' := [(0, .ref x0), (1, .int p1)]) rfl rfl rfl rfl rfl rfl (cH_rcvS (by omega) (by omega) g1 rfl) rfl rfl rfl ?_
  refine w_mv (pc1 := 1) (st1 := [.ref x0]) rfl rfl rfl ?_
  refine cw_gf (v := .int i1_1) (pc1 := 4) rfl (by omega) (by omega) g1 rfl rfl ?_
  refine w_mv (pc1 := 5) (lv1 := [(2, .int i1_1), (0, .ref x0), (1, .int p1)]) (st1 := []) rfl rfl rfl ?_
  refine w_mv (pc1 := 6) (st1 := [.ref x0]) rfl rfl rfl ?_
  refine cw_gf (v := .ref r1_0) (pc1 := 9) rfl (by omega) (by omega) g1 rfl rfl ?_
  refine w_mv (pc1 := 10) (lv1 := [(3, .ref r1_0), (2, .int i1_1), (0, .ref x0), (1, .int p1)]) (st1 := []) rfl rfl rfl ?_
  refine w_mv (pc1 := 11) (st1 := [.ref x0]) rfl rfl rfl ?_
  refine cw_gf (v := .int i1_3) (pc1 := 14) rfl (by omega) (by omega) g1 rfl rfl ?_
  refine w_mv (pc1 := 15) (st1 := [.ref r1_0, .int i1_3]) rfl rfl rfl ?_
  obtain ⟨b2a, b2b, n2, f2, g2, hh⟩ := hh
  refine cw_alen (pc1 := 16) rfl (by omega) g2 rfl ?_
  refine w_mv (pc1 := 17) (st1 := [.int i1_1, .int (Int32.ofNat n2), .int i1_3]) rfl rfl rfl ?_
  refine w_mv (pc1 := 18) (st1 := [.int (c_shr (Int32.ofNat n2) i1_1), .int i1_3]) rfl rfl rfl ?_
  refine w_call (M' := sM_174) (vals := [.int i1_3, .int (c_shr (Int32.ofNat n2) i1_1)]) (rest := []) (lv' := [(0, .int i1_3), (1, .int (c_shr (Int32.ofNat n2) i1_1))]) rfl rfl rfl rfl rfl rfl rfl rfl rfl rfl ?_
  refine w_mv (pc1 := 1) (st1 := [.int i1_3]) rfl rfl rfl ?_
  refine w_mv (pc1 := 2) (st1 := [.int (c_shr (Int32.ofNat n2) i1_1), .int i1_3]) rfl rfl rfl ?_
  by_cases h3 : (c_shr (Int32.ofNat n2) i1_1).toInt < i1_3.toInt
  ·
    replace hh := hh.1 h3
    refine w_igt_T (pc1 := 9) rfl rfl (show (c_shr (Int32.ofNat n2) i1_1).toInt < i1_3.toInt from h3) ?_
    refine w_mv (pc1 := 10) (st1 := [.int (c_shr (Int32.ofNat n2) i1_1)]) rfl rfl rfl ?_
    refine w_iret (pc1 := 21) rfl rfl rfl rfl ?_
    refine w_mv (pc1 := 23) (lv1 := [(4, .int (c_shr (Int32.ofNat n2) i1_1)), (3, .ref r1_0), (2, .int i1_1), (0, .ref x0), (1, .int p1)]) (st1 := []) rfl rfl rfl ?_
    refine w_mv (pc1 := 24) (st1 := [.int p1]) rfl rfl rfl ?_
    refine w_mv (pc1 := 26) (st1 := [.int (c_shr (Int32.ofNat n2) i1_1), .int p1]) rfl rfl rfl ?_
    refine w_call (M' := sM_200) (vals := [.int p1, .int (c_shr (Int32.ofNat n2) i1_1)]) (rest := []) (lv' := [(0, .int p1), (1, .int (c_shr (Int32.ofNat n2) i1_1))]) rfl rfl rfl rfl rfl rfl rfl rfl rfl rfl ?_
    refine w_mv (pc1 := 1) (st1 := [.int p1]) rfl rfl rfl ?_
    refine w_mv (pc1 := 2) (st1 := [.int (c_shr (Int32.ofNat n2) i1_1), .int p1]) rfl rfl rfl ?_
    obtain ⟨q4a, q4b, hh⟩ := hh
    refine cw_fm (pc1 := 8) rfl q4a q4b (by omega) (Nat.le_of_ble_eq_true rfl) rfl ?_
    refine w_mv (pc1 := 9) (st1 := []) rfl rfl rfl ?_
    refine w_vret (pc1 := 29) rfl rfl rfl ?_
    refine w_mv (pc1 := 30) (st1 := [.int i1_1]) rfl rfl rfl ?_
    by_cases h5 : i1_1.toInt = 0
    ·
      replace hh := hh.2 h5
      refine w_zne_F (pc1 := 33) rfl (by decide) rfl (show i1_1.toInt = 0 from h5) ?_
      refine w_mv (pc1 := 34) (st1 := [.ref r1_0]) rfl rfl rfl ?_
      refine w_mv (pc1 := 35) (st1 := [.int p1, .ref r1_0]) rfl rfl rfl ?_
      obtain ⟨q6a, q6b, hh⟩ := hh
      refine cw_bld (pc1 := 36) rfl (by omega) g2 q6a q6b rfl ?_
      refine w_mv (pc1 := 39) (st1 := [.int 255, .int (f2 p1.toNatClampNeg)]) rfl rfl rfl ?_
      refine w_mv (pc1 := 40) (st1 := [.int (f2 p1.toNatClampNeg &&& 255)]) rfl rfl rfl ?_
      refine w_mv (pc1 := 41) (st1 := [.int (UInt32.toInt32 (Int32.toUInt32 (f2 p1.toNatClampNeg &&& 255) % 65536))]) rfl rfl rfl ?_
      refine w_iret (pc1 := 5) rfl rfl c_fitc rfl ?_
      refine cw_cend rfl rfl c_fitc ?_
      exact c_acc (hP _ _ _ _ _ hh) (by omega) (by omega)
    ·
      replace hh := hh.1 h5
      refine w_zne_T (pc1 := 42) rfl rfl (show i1_1.toInt ≠ 0 from h5) ?_
      refine w_mv (pc1 := 43) (st1 := [.ref r1_0]) rfl rfl rfl ?_
      refine w_mv (pc1 := 44) (st1 := [.int p1, .ref r1_0]) rfl rfl rfl ?_
      exact hh.elim
  ·
    replace hh := hh.2 (Int.not_lt.mp h3)
    refine w_igt_F (pc1 := 5) rfl (by decide) rfl (show i1_3.toInt ≤ (c_shr (Int32.ofNat n2) i1_1).toInt from (Int.not_lt.mp h3)) ?_
    refine w_mv (pc1 := 6) (st1 := [.int i1_3]) rfl rfl rfl ?_
    refine w_mv (pc1 := 10) (st1 := [.int i1_3]) rfl rfl rfl ?_
    refine w_iret (pc1 := 21) rfl rfl rfl rfl ?_
    refine w_mv (pc1 := 23) (lv1 := [(4, .int i1_3), (3, .ref r1_0), (2, .int i1_1), (0, .ref x0), (1, .int p1)]) (st1 := []) rfl rfl rfl ?_
    refine w_mv (pc1 := 24) (st1 := [.int p1]) rfl rfl rfl ?_
    refine w_mv (pc1 := 26) (st1 := [.int i1_3, .int p1]) rfl rfl rfl ?_
    refine w_call (M' := sM_200) (vals := [.int p1, .int i1_3]) (rest := []) (lv' := [(0, .int p1), (1, .int i1_3)]) rfl rfl rfl rfl rfl rfl rfl rfl rfl rfl ?_
    refine w_mv (pc1 := 1) (st1 := [.int p1]) rfl rfl rfl ?_
    refine w_mv (pc1 := 2) (st1 := [.int i1_3, .int p1]) rfl rfl rfl ?_
    obtain ⟨q7a, q7b, hh⟩ := hh
    refine cw_fm (pc1 := 8) rfl q7a q7b (by omega) (Nat.le_of_ble_eq_true rfl) rfl ?_
    refine w_mv (pc1 := 9) (st1 := []) rfl rfl rfl ?_
    refine w_vret (pc1 := 29) rfl rfl rfl ?_
    refine w_mv (pc1 := 30) (st1 := [.int i1_1]) rfl rfl rfl ?_
    by_cases h8 : i1_1.toInt = 0
    ·
      replace hh := hh.2 h8
      refine w_zne_F (pc1 := 33) rfl (by decide) rfl (show i1_1.toInt = 0 from h8) ?_
      refine w_mv (pc1 := 34) (st1 := [.ref r1_0]) rfl rfl rfl ?_
      refine w_mv (pc1 := 35) (st1 := [.int p1, .ref r1_0]) rfl rfl rfl ?_
      obtain ⟨q9a, q9b, hh⟩ := hh
      refine cw_bld (pc1 := 36) rfl (by omega) g2 q9a q9b rfl ?_
      refine w_mv (pc1 := 39) (st1 := [.int 255, .int (f2 p1.toNatClampNeg)]) rfl rfl rfl ?_
      refine w_mv (pc1 := 40) (st1 := [.int (f2 p1.toNatClampNeg &&& 255)]) rfl rfl rfl ?_
      refine w_mv (pc1 := 41) (st1 := [.int (UInt32.toInt32 (Int32.toUInt32 (f2 p1.toNatClampNeg &&& 255) % 65536))]) rfl rfl rfl ?_
      refine w_iret (pc1 := 5) rfl rfl c_fitc rfl ?_
      refine cw_cend rfl rfl c_fitc ?_
      exact c_acc (hP _ _ _ _ _ hh) (by omega) (by omega)
    ·
      replace hh := hh.1 h8
      refine w_zne_T (pc1 := 42) rfl rfl (show i1_1.toInt ≠ 0 from h8) ?_
      refine w_mv (pc1 := 43) (st1 := [.ref r1_0]) rfl rfl rfl ?_
      refine w_mv (pc1 := 44) (st1 := [.int p1, .ref r1_0]) rfl rfl rfl ?_
      exact hh.elim
set_option maxRecDepth 20000 in
set_option maxHeartbeats 4000000 in
theorem k_7_0 {p1 : Int32} {N : Nat} {G : Nat → sx_C} {K : Option Value ⊕ Nat → Nat → (Nat → sx_C) → Nat → Nat → Prop} (hh : ((p1 = 0 → 5 < N ∧ ∃ (i2_1 : Int32), G 5 = .inr (.inl (0, [.ref 6, .int i2_1, .ref 8, .ref 9, .ref 31])) ∧ K (.inl (some (.int i2_1))) (N) G (0) (0)) ∧ (p1 = 1 → 5 < N ∧ ∃ (i4_1 : Int32), G 5 = .inr (.inl (0, [.ref 6, .int i4_1, .ref 8, .ref 9, .ref 31])) ∧ 6 < N ∧ ∃ (i5_1 : Int32) (i5_2 : Int32), G 6 = .inr (.inl (1, [.ref 7, .int i5_1, .int i5_2])) ∧ K (.inl (some (.int i5_1))) (N) G (0) (0)) ∧ (p1 = 2 → 5 < N ∧ ∃ (i7_1 : Int32), G 5 = .inr (.inl (0, [.ref 6, .int i7_1, .ref 8, .ref 9, .ref 31])) ∧ 8 < N ∧ ∃ (r8_0 : Nat) (i8_1 : Int32) (i8_2 : Int32), G 8 = .inr (.inl (13, [.ref r8_0, .int i8_1, .int i8_2])) ∧ K (.inl (some (.int i8_1))) (N) G (0) (0)) ∧ (p1 = 3 → 5 < N ∧ ∃ (i10_1 : Int32), G 5 = .inr (.inl (0, [.ref 6, .int i10_1, .ref 8, .ref 9, .ref 31])) ∧ 9 < N ∧ ∃ (i11_5 : Int32) (i11_6 : Int32) (i11_7 : Int32), G 9 = .inr (.inl (2, [.ref 10, .ref 17, .ref 18, .ref 20, .ref 22, .int i11_5, .int i11_6, .int i11_7])) ∧ K (.inl (some (.int i11_6))) (N) G (0) (0)) ∧ (p1 = 4 → 5 < N ∧ ∃ (i13_1 : Int32), G 5 = .inr (.inl (0, [.ref 6, .int i13_1, .ref 8, .ref 9, .ref 31])) ∧ 9 < N ∧ ∃ (i14_5 : Int32) (i14_6 : Int32) (i14_7 : Int32), G 9 = .inr (.inl (2, [.ref 10, .ref 17, .ref 18, .ref 20, .ref 22, .int i14_5, .int i14_6, .int i14_7])) ∧ cT (2) sM_10 0 [(0, .ref 9)] [] (N) G (fun r15 N15 G15 kc15 ks15 => N = N15 ∧ G = G15 ∧ 0 = kc15 ∧ 0 = ks15 ∧ ∃ v15 : Int32, r15 = .inl (some (.int v15)) ∧ K (.inl (some (.int v15))) (N) G (0) (0))) ∧ (p1 = 5 → 5 < N ∧ ∃ (i17_1 : Int32), G 5 = .inr (.inl (0, [.ref 6, .int i17_1, .ref 8, .ref 9, .ref 31])) ∧ 9 < N ∧ ∃ (i18_5 : Int32) (i18_6 : Int32) (i18_7 : Int32), G 9 = .inr (.inl (2, [.ref 10, .ref 17, .ref 18, .ref 20, .ref 22, .int i18_5, .int i18_6, .int i18_7])) ∧ 18 < N ∧ ∃ (i19_1 : Int32), G 18 = .inr (.inl (6, [.ref 19, .int i19_1])) ∧ K (.inl (some (.int i19_1))) (N) G (0) (0)) ∧ (p1 = 6 → 5 < N ∧ ∃ (i21_1 : Int32), G 5 = .inr (.inl (0, [.ref 6, .int i21_1, .ref 8, .ref 9, .ref 31])) ∧ 9 < N ∧ ∃ (i22_5 : Int32) (i22_6 : Int32) (i22_7 : Int32), G 9 = .inr (.inl (2, [.ref 10, .ref 17, .ref 18, .ref 20, .ref 22, .int i22_5, .int i22_6, .int i22_7])) ∧ 10 < N ∧ ∃ (i23_3 : Int32) (o23_4 : Option Nat), G 10 = .inr (.inl (3, [.ref 11, .ref 13, .ref 16, .int i23_3, va_rf o23_4])) ∧ 11 < N ∧ ∃ (i24_1 : Int32) (i24_2 : Int32), G 11 = .inr (.inl (4, [.ref 12, .int i24_1, .int i24_2])) ∧ K (.inl (some (.int i24_2))) (N) G (0) (0)) ∧ (p1 = 7 → 5 < N ∧ ∃ (i26_1 : Int32), G 5 = .inr (.inl (0, [.ref 6, .int i26_1, .ref 8, .ref 9, .ref 31])) ∧ 9 < N ∧ ∃ (i27_5 : Int32) (i27_6 : Int32) (i27_7 : Int32), G 9 = .inr (.inl (2, [.ref 10, .ref 17, .ref 18, .ref 20, .ref 22, .int i27_5, .int i27_6, .int i27_7])) ∧ K (.inl (some (.int i27_7))) (N) G (0) (0)) ∧ (p1 = 8 → 5 < N ∧ ∃ (i29_1 : Int32), G 5 = .inr (.inl (0, [.ref 6, .int i29_1, .ref 8, .ref 9, .ref 31])) ∧ 9 < N ∧ ∃ (i30_5 : Int32) (i30_6 : Int32) (i30_7 : Int32), G 9 = .inr (.inl (2, [.ref 10, .ref 17, .ref 18, .ref 20, .ref 22, .int i30_5, .int i30_6, .int i30_7])) ∧ K (.inl (some (.int i30_5))) (N) G (0) (0)) ∧ ((p1.toInt < 0 ∨ 8 < p1.toInt) → ((p1.toInt < 10 → K (.inl (some (.int (-1)))) (N) G (0) (0)) ∧ (10 ≤ p1.toInt → ((14 ≤ p1.toInt → K (.inl (some (.int (-1)))) (N) G (0) (0)) ∧ (p1.toInt < 14 → 5 < N ∧ ∃ (i34_1 : Int32), G 5 = .inr (.inl (0, [.ref 6, .int i34_1, .ref 8, .ref 9, .ref 31])) ∧ 9 < N ∧ ∃ (i35_5 : Int32) (i35_6 : Int32) (i35_7 : Int32), G 9 = .inr (.inl (2, [.ref 10, .ref 17, .ref 18, .ref 20, .ref 22, .int i35_5, .int i35_6, .int i35_7])) ∧ (((p1 - 10).toInt < 0 → K (.inl (some (.int 0))) (N) G (0) (0)) ∧ (0 ≤ (p1 - 10).toInt → ((4 ≤ (p1 - 10).toInt → K (.inl (some (.int 0))) (N) G (0) (0)) ∧ ((p1 - 10).toInt < 4 → 17 < N ∧ ∃ (f38 : Nat → Option Nat), G 17 = .inl (5, (4, .inr (.inr (.inr (.inr f38))))) ∧ 0 ≤ (p1 - 10).toInt ∧ (p1 - 10).toInt < (4 : Nat) ∧ ∃ x40, f38 (p1 - 10).toNatClampNeg = some x40 ∧ 5 ≤ x40 ∧ x40 < N ∧ ∃ (i41_1 : Int32), G x40 = .inr (.inl (6, [.ref (x40 + 1), .int i41_1])) ∧ K (.inl (some (.int i41_1))) (N) G (0) (0)))))))))))) : cT (3) sM_7 0 [(0, .ref 5), (1, .int p1)] [] N G K := by
  intro d dc ds P hP
  refine w_mv (pc1 := 1) (st1 := [.int p1]) rfl rfl rfl ?_
  by_cases h1 : p1 = 0
  ·
    replace hh := hh.1 h1
    subst h1
    refine w_mv (pc1 := 52) (st1 := []) rfl rfl rfl ?_
    refine w_mv (pc1 := 53) (st1 := [.ref 5]) rfl rfl rfl ?_
    obtain ⟨b2b, i2_1, g2, hh⟩ := hh
    refine cw_gf (v := .int i2_1) (pc1 := 56) rfl (by omega) (by omega) g2 rfl rfl ?_
    refine sx_wp.stop rfl rfl rfl ?_
    exact c_acc (hP _ _ _ _ _ hh) (by omega) (by omega)
  replace hh := hh.2
  by_cases h3 : p1 = 1
  ·
    replace hh := hh.1 h3
    subst h3
    refine w_mv (pc1 := 57) (st1 := []) rfl rfl rfl ?_
    refine w_mv (pc1 := 58) (st1 := [.ref 5]) rfl rfl rfl ?_
    obtain ⟨b4b, i4_1, g4, hh⟩ := hh
    refine cw_gf (v := .ref 6) (pc1 := 61) rfl (by omega) (by omega) g4 rfl rfl ?_
    obtain ⟨b5b, i5_1, i5_2, g5, hh⟩ := hh
    refine w_call (M' := sM_8) (vals := [.ref 6]) (rest := []) (lv' := [(0, .ref 6)]) rfl rfl rfl rfl rfl rfl (cH_rcv (by omega) (by omega) g5) rfl rfl rfl ?_
    refine w_mv (pc1 := 1) (st1 := [.ref 6]) rfl rfl rfl ?_
    refine cw_gf (v := .int i5_1) (pc1 := 4) rfl (by omega) (by omega) g5 rfl rfl ?_
    refine w_iret (pc1 := 64) rfl rfl rfl rfl ?_
    refine sx_wp.stop rfl rfl rfl ?_
    exact c_acc (hP _ _ _ _ _ hh) (by omega) (by omega)
  replace hh := hh.2
  by_cases h6 : p1 = 2
  ·
    replace hh := hh.1 h6
    subst h6
    refine w_mv (pc1 := 65) (st1 := []) rfl rfl rfl ?_
    refine w_mv (pc1 := 66) (st1 := [.ref 5]) rfl rfl rfl ?_
    obtain ⟨b7b, i7_1, g7, hh⟩ := hh
    refine cw_gf (v := .ref 8) (pc1 := 69) rfl (by omega) (by omega) g7 rfl rfl ?_
    obtain ⟨b8b, r8_0, i8_1, i8_2, g8, hh⟩ := hh
    refine w_call (M' := sM_165) (vals := [.ref 8]) (rest := []) (lv' := [(0, .ref 8)]) rfl rfl rfl rfl rfl rfl (cH_rcv (by omega) (by omega) g8) rfl rfl rfl ?_
    refine w_mv (pc1 := 1) (st1 := [.ref 8]) rfl rfl rfl ?_
    refine cw_gf (v := .int i8_1) (pc1 := 4) rfl (by omega) (by omega) g8 rfl rfl ?_
    refine w_iret (pc1 := 72) rfl rfl rfl rfl ?_
    refine sx_wp.stop rfl rfl rfl ?_
    exact c_acc (hP _ _ _ _ _ hh) (by omega) (by omega)
  replace hh := hh.2
  by_cases h9 : p1 = 3
  ·
    replace hh := hh.1 h9
    subst h9
    refine w_mv (pc1 := 73) (st1 := []) rfl rfl rfl ?_
    refine w_mv (pc1 := 74) (st1 := [.ref 5]) rfl rfl rfl ?_
    obtain ⟨b10b, i10_1, g10, hh⟩ := hh
    refine cw_gf (v := .ref 9) (pc1 := 77) rfl (by omega) (by omega) g10 rfl rfl ?_
    obtain ⟨b11b, i11_5, i11_6, i11_7, g11, hh⟩ := hh
    refine w_call (M' := sM_9) (vals := [.ref 9]) (rest := []) (lv' := [(0, .ref 9)]) rfl rfl rfl rfl rfl rfl (cH_rcv (by omega) (by omega) g11) rfl rfl rfl ?_
    refine w_mv (pc1 := 1) (st1 := [.ref 9]) rfl rfl rfl ?_
    refine cw_gf (v := .int i11_6) (pc1 := 4) rfl (by omega) (by omega) g11 rfl rfl ?_
    refine w_iret (pc1 := 80) rfl rfl rfl rfl ?_
    refine sx_wp.stop rfl rfl rfl ?_
    exact c_acc (hP _ _ _ _ _ hh) (by omega) (by omega)
  replace hh := hh.2
  by_cases h12 : p1 = 4
  ·
    replace hh := hh.1 h12
    subst h12
    refine w_mv (pc1 := 81) (st1 := []) rfl rfl rfl ?_
    refine w_mv (pc1 := 82) (st1 := [.ref 5]) rfl rfl rfl ?_
    obtain ⟨b13b, i13_1, g13, hh⟩ := hh
    refine cw_gf (v := .ref 9) (pc1 := 85) rfl (by omega) (by omega) g13 rfl rfl ?_
    obtain ⟨b14b, i14_5, i14_6, i14_7, g14, hh⟩ := hh
    refine w_call (M' := sM_10) (vals := [.ref 9]) (rest := []) (lv' := [(0, .ref 9)]) rfl rfl rfl rfl rfl rfl (cH_rcv (by omega) (by omega) g14) rfl rfl rfl ?_
    refine hh _ _ _ _ (fun r15 N15 G15 kc15 ks15 hh => ?_)
    obtain ⟨eN15, eG15, ek15, es15, hh⟩ := hh
    subst eN15
    subst eG15
    subst ek15
    subst es15
    obtain ⟨v15, er15, hh⟩ := hh
    subst er15
    refine w_ki (pc1 := 88) rfl ?_
    refine sx_wp.stop rfl rfl rfl ?_
    exact c_acc (hP _ _ _ _ _ hh) (by omega) (by omega)
  replace hh := hh.2
  by_cases h16 : p1 = 5
  ·
    replace hh := hh.1 h16
    subst h16
    refine w_mv (pc1 := 89) (st1 := []) rfl rfl rfl ?_
    refine w_mv (pc1 := 90) (st1 := [.ref 5]) rfl rfl rfl ?_
    obtain ⟨b17b, i17_1, g17, hh⟩ := hh
    refine cw_gf (v := .ref 9) (pc1 := 93) rfl (by omega) (by omega) g17 rfl rfl ?_
    obtain ⟨b18b, i18_5, i18_6, i18_7, g18, hh⟩ := hh
    refine w_call (M' := sM_12) (vals := [.ref 9]) (rest := []) (lv' := [(0, .ref 9)]) rfl rfl rfl rfl rfl rfl (cH_rcv (by omega) (by omega) g18) rfl rfl rfl ?_
    refine w_mv (pc1 := 1) (st1 := [.ref 9]) rfl rfl rfl ?_
    refine cw_gf (v := .ref 18) (pc1 := 4) rfl (by omega) (by omega) g18 rfl rfl ?_
    obtain ⟨b19b, i19_1, g19, hh⟩ := hh
    refine w_call (M' := sM_11) (vals := [.ref 18]) (rest := []) (lv' := [(0, .ref 18)]) rfl rfl rfl rfl rfl rfl (cH_rcv (by omega) (by omega) g19) rfl rfl rfl ?_
    refine w_mv (pc1 := 1) (st1 := [.ref 18]) rfl rfl rfl ?_
    refine cw_gf (v := .int i19_1) (pc1 := 4) rfl (by omega) (by omega) g19 rfl rfl ?_
    refine w_iret (pc1 := 7) rfl rfl rfl rfl ?_
    refine w_iret (pc1 := 96) rfl rfl rfl rfl ?_
    refine sx_wp.stop rfl rfl rfl ?_
    exact c_acc (hP _ _ _ _ _ hh) (by omega) (by omega)
  replace hh := hh.2
  by_cases h20 : p1 = 6
  ·
    replace hh := hh.1 h20
    subst h20
    refine w_mv (pc1 := 97) (st1 := []) rfl rfl rfl ?_
    refine w_mv (pc1 := 98) (st1 := [.ref 5]) rfl rfl rfl ?_
    obtain ⟨b21b, i21_1, g21, hh⟩ := hh
    refine cw_gf (v := .ref 9) (pc1 := 101) rfl (by omega) (by omega) g21 rfl rfl ?_
    obtain ⟨b22b, i22_5, i22_6, i22_7, g22, hh⟩ := hh
    refine w_call (M' := sM_13) (vals := [.ref 9]) (rest := []) (lv' := [(0, .ref 9)]) rfl rfl rfl rfl rfl rfl (cH_rcv (by omega) (by omega) g22) rfl rfl rfl ?_
    refine w_mv (pc1 := 1) (st1 := [.ref 9]) rfl rfl rfl ?_
    refine cw_gf (v := .ref 10) (pc1 := 4) rfl (by omega) (by omega) g22 rfl rfl ?_
    obtain ⟨b23b, i23_3, o23_4, g23, hh⟩ := hh
    refine cw_gf (v := .ref 11) (pc1 := 7) rfl (by omega) (by omega) g23 rfl rfl ?_
    obtain ⟨b24b, i24_1, i24_2, g24, hh⟩ := hh
    refine w_call (M' := sM_14) (vals := [.ref 11]) (rest := []) (lv' := [(0, .ref 11)]) rfl rfl rfl rfl rfl rfl (cH_rcv (by omega) (by omega) g24) rfl rfl rfl ?_
    refine w_mv (pc1 := 1) (st1 := [.ref 11]) rfl rfl rfl ?_
    refine cw_gf (v := .int i24_2) (pc1 := 4) rfl (by omega) (by omega) g24 rfl rfl ?_
    refine w_iret (pc1 := 10) rfl rfl rfl rfl ?_
    refine w_iret (pc1 := 104) rfl rfl rfl rfl ?_
    refine sx_wp.stop rfl rfl rfl ?_
    exact c_acc (hP _ _ _ _ _ hh) (by omega) (by omega)
  replace hh := hh.2
  by_cases h25 : p1 = 7
  ·
    replace hh := hh.1 h25
    subst h25
    refine w_mv (pc1 := 105) (st1 := []) rfl rfl rfl ?_
    refine w_mv (pc1 := 106) (st1 := [.ref 5]) rfl rfl rfl ?_
    obtain ⟨b26b, i26_1, g26, hh⟩ := hh
    refine cw_gf (v := .ref 9) (pc1 := 109) rfl (by omega) (by omega) g26 rfl rfl ?_
    obtain ⟨b27b, i27_5, i27_6, i27_7, g27, hh⟩ := hh
    refine w_call (M' := sM_15) (vals := [.ref 9]) (rest := []) (lv' := [(0, .ref 9)]) rfl rfl rfl rfl rfl rfl (cH_rcv (by omega) (by omega) g27) rfl rfl rfl ?_
    refine w_mv (pc1 := 1) (st1 := [.ref 9]) rfl rfl rfl ?_
    refine cw_gf (v := .int i27_7) (pc1 := 4) rfl (by omega) (by omega) g27 rfl rfl ?_
    refine w_iret (pc1 := 112) rfl rfl rfl rfl ?_
    refine sx_wp.stop rfl rfl rfl ?_
    exact c_acc (hP _ _ _ _ _ hh) (by omega) (by omega)
  replace hh := hh.2
  by_cases h28 : p1 = 8
  ·
    replace hh := hh.1 h28
    subst h28
    refine w_mv (pc1 := 113) (st1 := []) rfl rfl rfl ?_
    refine w_mv (pc1 := 114) (st1 := [.ref 5]) rfl rfl rfl ?_
    obtain ⟨b29b, i29_1, g29, hh⟩ := hh
    refine cw_gf (v := .ref 9) (pc1 := 117) rfl (by omega) (by omega) g29 rfl rfl ?_
    obtain ⟨b30b, i30_5, i30_6, i30_7, g30, hh⟩ := hh
    refine w_call (M' := sM_16) (vals := [.ref 9]) (rest := []) (lv' := [(0, .ref 9)]) rfl rfl rfl rfl rfl rfl (cH_rcv (by omega) (by omega) g30) rfl rfl rfl ?_
    refine w_mv (pc1 := 1) (st1 := [.ref 9]) rfl rfl rfl ?_
    refine cw_gf (v := .int i30_5) (pc1 := 4) rfl (by omega) (by omega) g30 rfl rfl ?_
    refine w_iret (pc1 := 120) rfl rfl rfl rfl ?_
    refine sx_wp.stop rfl rfl rfl ?_
    exact c_acc (hP _ _ _ _ _ hh) (by omega) (by omega)
  replace hh := hh.2
  have h31 : p1.toInt < 0 ∨ 8 < p1.toInt := c_sw0_8 h1 h3 h6 h9 h12 h16 h20 h25 h28
  replace hh := hh h31
  refine w_swO (pc1 := 121) rfl rfl h31 ?_
  refine w_mv (pc1 := 122) (st1 := [.int p1]) rfl rfl rfl ?_
  refine w_mv (pc1 := 124) (st1 := [.int 10, .int p1]) rfl rfl rfl ?_
  by_cases h32 : p1.toInt < 10
  ·
    replace hh := hh.1 h32
    refine w_ilt_T (pc1 := 147) rfl rfl (show p1.toInt < 10 from h32) ?_
    refine w_mv (pc1 := 148) (st1 := [.int (-1)]) rfl rfl rfl ?_
    refine sx_wp.stop rfl rfl rfl ?_
    exact c_acc (hP _ _ _ _ _ hh) (by omega) (by omega)
  ·
    replace hh := hh.2 (Int.not_lt.mp h32)
    refine w_ilt_F (pc1 := 127) rfl (by decide) rfl (show 10 ≤ p1.toInt from (Int.not_lt.mp h32)) ?_
    refine w_mv (pc1 := 128) (st1 := [.int p1]) rfl rfl rfl ?_
    refine w_mv (pc1 := 130) (st1 := [.int 14, .int p1]) rfl rfl rfl ?_
    by_cases h33 : 14 ≤ p1.toInt
    ·
      replace hh := hh.1 h33
      refine w_ige_T (pc1 := 147) rfl rfl (show 14 ≤ p1.toInt from h33) ?_
      refine w_mv (pc1 := 148) (st1 := [.int (-1)]) rfl rfl rfl ?_
      refine sx_wp.stop rfl rfl rfl ?_
      exact c_acc (hP _ _ _ _ _ hh) (by omega) (by omega)
    ·
      replace hh := hh.2 (Int.not_le.mp h33)
      refine w_ige_F (pc1 := 133) rfl (by decide) rfl (show p1.toInt < 14 from (Int.not_le.mp h33)) ?_
      refine w_mv (pc1 := 134) (st1 := [.ref 5]) rfl rfl rfl ?_
      obtain ⟨b34b, i34_1, g34, hh⟩ := hh
      refine cw_gf (v := .ref 9) (pc1 := 137) rfl (by omega) (by omega) g34 rfl rfl ?_
      refine w_mv (pc1 := 138) (st1 := [.int p1, .ref 9]) rfl rfl rfl ?_
      refine w_mv (pc1 := 140) (st1 := [.int 10, .int p1, .ref 9]) rfl rfl rfl ?_
      refine w_mv (pc1 := 141) (st1 := [.int (p1 - 10), .ref 9]) rfl rfl rfl ?_
      obtain ⟨b35b, i35_5, i35_6, i35_7, g35, hh⟩ := hh
      refine w_call (M' := sM_17) (vals := [.ref 9, .int (p1 - 10)]) (rest := []) (lv' := [(0, .ref 9), (1, .int (p1 - 10))]) rfl rfl rfl rfl rfl rfl (cH_rcv (by omega) (by omega) g35) rfl rfl rfl ?_
      refine w_mv (pc1 := 1) (st1 := [.int (p1 - 10)]) rfl rfl rfl ?_
      by_cases h36 : (p1 - 10).toInt < 0
      ·
        replace hh := hh.1 h36
        refine w_zlt_T (pc1 := 21) rfl rfl (show (p1 - 10).toInt < 0 from h36) ?_
        refine w_mv (pc1 := 22) (st1 := [.int 0]) rfl rfl rfl ?_
        refine w_iret (pc1 := 144) rfl rfl rfl rfl ?_
        refine w_mv (pc1 := 148) (st1 := [.int 0]) rfl rfl rfl ?_
        refine sx_wp.stop rfl rfl rfl ?_
        exact c_acc (hP _ _ _ _ _ hh) (by omega) (by omega)
      ·
        replace hh := hh.2 (Int.not_lt.mp h36)
        refine w_zlt_F (pc1 := 4) rfl (by decide) rfl (show 0 ≤ (p1 - 10).toInt from (Int.not_lt.mp h36)) ?_
        refine w_mv (pc1 := 5) (st1 := [.int (p1 - 10)]) rfl rfl rfl ?_
        refine w_mv (pc1 := 6) (st1 := [.int 4, .int (p1 - 10)]) rfl rfl rfl ?_
        by_cases h37 : 4 ≤ (p1 - 10).toInt
        ·
          replace hh := hh.1 h37
          refine w_ige_T (pc1 := 21) rfl rfl (show 4 ≤ (p1 - 10).toInt from h37) ?_
          refine w_mv (pc1 := 22) (st1 := [.int 0]) rfl rfl rfl ?_
          refine w_iret (pc1 := 144) rfl rfl rfl rfl ?_
          refine w_mv (pc1 := 148) (st1 := [.int 0]) rfl rfl rfl ?_
          refine sx_wp.stop rfl rfl rfl ?_
          exact c_acc (hP _ _ _ _ _ hh) (by omega) (by omega)
        ·
          replace hh := hh.2 (Int.not_le.mp h37)
          refine w_ige_F (pc1 := 9) rfl (by decide) rfl (show (p1 - 10).toInt < 4 from (Int.not_le.mp h37)) ?_
          refine w_mv (pc1 := 10) (st1 := [.ref 9]) rfl rfl rfl ?_
          refine cw_gf (v := .ref 17) (pc1 := 13) rfl (by omega) (by omega) g35 rfl rfl ?_
          refine w_mv (pc1 := 14) (st1 := [.int (p1 - 10), .ref 17]) rfl rfl rfl ?_
          obtain ⟨b38b, f38, g38, hh⟩ := hh
          obtain ⟨q39a, q39b, hh⟩ := hh
          refine cw_ald (pc1 := 15) rfl (by omega) g38 rfl q39a q39b rfl ?_
          obtain ⟨x40, e40, hh⟩ := hh
          rw [e40]
          obtain ⟨b41a, b41b, i41_1, g41, hh⟩ := hh
          refine w_call (M' := sM_11) (vals := [.ref x40]) (rest := []) (lv' := [(0, .ref x40)]) rfl rfl rfl rfl rfl rfl (cH_rcv (by omega) (by omega) g41) rfl rfl rfl ?_
          refine w_mv (pc1 := 1) (st1 := [.ref x40]) rfl rfl rfl ?_
          refine cw_gf (v := .int i41_1) (pc1 := 4) rfl (by omega) (by omega) g41 rfl rfl ?_
          refine w_iret (pc1 := 18) rfl rfl rfl rfl ?_
          refine w_mv (pc1 := 22) (st1 := [.int i41_1]) rfl rfl rfl ?_
          refine w_iret (pc1 := 144) rfl rfl rfl rfl ?_
          refine w_mv (pc1 := 148) (st1 := [.int i41_1]) rfl rfl rfl ?_
          refine sx_wp.stop rfl rfl rfl ?_
          exact c_acc (hP _ _ _ _ _ hh) (by omega) (by omega)
set_option maxRecDepth 20000 in
set_option maxHeartbeats 4000000 in
theorem k_10_0  {N : Nat} {G : Nat → sx_C} {K : Option Value ⊕ Nat → Nat → (Nat → sx_C) → Nat → Nat → Prop} (hh : cT (2) sM_10 4 [(0, .ref 9), (1, .int 0), (2, .int 0)] [] (N) G (fun r N1 G1 kc1 ks1 => K r N1 G1 (kc1) (ks1))) : cT (2) sM_10 0 [(0, .ref 9)] [] N G K := by
  intro d dc ds P hP
  refine w_mv (pc1 := 1) (st1 := [.int 0]) rfl rfl rfl ?_
  refine w_mv (pc1 := 2) (lv1 := [(1, .int 0), (0, .ref 9)]) (st1 := []) rfl rfl rfl ?_
  refine w_mv (pc1 := 3) (st1 := [.int 0]) rfl rfl rfl ?_
  refine w_mv (pc1 := 4) (lv1 := [(2, .int 0), (1, .int 0), (0, .ref 9)]) (st1 := []) rfl rfl rfl ?_
  refine w_wk (l1 := [(0, .ref 9), (1, .int 0), (2, .int 0)]) rfl ⟨rfl, rfl, rfl, trivial⟩ ?_
  refine hh d _ _ P (fun r N1 G1 kc1 ks1 q => ?_)
  exact c_acc (hP r N1 G1 _ _ q) (by omega) (by omega)
set_option maxRecDepth 20000 in
set_option maxHeartbeats 4000000 in
theorem k_10_4 {p1 : Int32} {p2 : Int32} {N : Nat} {G : Nat → sx_C} {K : Option Value ⊕ Nat → Nat → (Nat → sx_C) → Nat → Nat → Prop} (hh : ((4 ≤ p2.toInt → K (.inl (some (.int p1))) (N) G (0) (0)) ∧ (p2.toInt < 4 → 9 < N ∧ ∃ (i2_5 : Int32) (i2_6 : Int32) (i2_7 : Int32), G 9 = .inr (.inl (2, [.ref 10, .ref 17, .ref 18, .ref 20, .ref 22, .int i2_5, .int i2_6, .int i2_7])) ∧ 17 < N ∧ ∃ (f3 : Nat → Option Nat), G 17 = .inl (5, (4, .inr (.inr (.inr (.inr f3))))) ∧ 0 ≤ p2.toInt ∧ p2.toInt < (4 : Nat) ∧ ∃ x5, f3 p2.toNatClampNeg = some x5 ∧ 5 ≤ x5 ∧ x5 < N ∧ ∃ (i6_1 : Int32), G x5 = .inr (.inl (6, [.ref (x5 + 1), .int i6_1])) ∧ cT (2) sM_10 4 [(0, .ref 9), (1, .int (p1 + i6_1)), (2, .int (p2 + 1))] [] (N) G (fun r N1 G1 kc1 ks1 => K r N1 G1 (kc1) (ks1))))) : cT (2) sM_10 4 [(0, .ref 9), (1, .int p1), (2, .int p2)] [] N G K := by
  intro d dc ds P hP
  refine w_mv (pc1 := 5) (st1 := [.int p2]) rfl rfl rfl ?_
  refine w_mv (pc1 := 6) (st1 := [.int 4, .int p2]) rfl rfl rfl ?_
  by_cases h1 : 4 ≤ p2.toInt
  ·
    replace hh := hh.1 h1
    refine w_ige_T (pc1 := 27) rfl rfl (show 4 ≤ p2.toInt from h1) ?_
    refine w_mv (pc1 := 28) (st1 := [.int p1]) rfl rfl rfl ?_
    refine sx_wp.stop rfl rfl rfl ?_
    exact c_acc (hP _ _ _ _ _ hh) (by omega) (by omega)
  ·
    replace hh := hh.2 (Int.not_le.mp h1)
    refine w_ige_F (pc1 := 9) rfl (by decide) rfl (show p2.toInt < 4 from (Int.not_le.mp h1)) ?_
    refine w_mv (pc1 := 10) (st1 := [.int p1]) rfl rfl rfl ?_
    refine w_mv (pc1 := 11) (st1 := [.ref 9, .int p1]) rfl rfl rfl ?_
    obtain ⟨b2b, i2_5, i2_6, i2_7, g2, hh⟩ := hh
    refine cw_gf (v := .ref 17) (pc1 := 14) rfl (by omega) (by omega) g2 rfl rfl ?_
    refine w_mv (pc1 := 15) (st1 := [.int p2, .ref 17, .int p1]) rfl rfl rfl ?_
    obtain ⟨b3b, f3, g3, hh⟩ := hh
    obtain ⟨q4a, q4b, hh⟩ := hh
    refine cw_ald (pc1 := 16) rfl (by omega) g3 rfl q4a q4b rfl ?_
    obtain ⟨x5, e5, hh⟩ := hh
    rw [e5]
    obtain ⟨b6a, b6b, i6_1, g6, hh⟩ := hh
    refine w_call (M' := sM_11) (vals := [.ref x5]) (rest := [.int p1]) (lv' := [(0, .ref x5)]) rfl rfl rfl rfl rfl rfl (cH_rcv (by omega) (by omega) g6) rfl rfl rfl ?_
    refine w_mv (pc1 := 1) (st1 := [.ref x5]) rfl rfl rfl ?_
    refine cw_gf (v := .int i6_1) (pc1 := 4) rfl (by omega) (by omega) g6 rfl rfl ?_
    refine w_iret (pc1 := 19) rfl rfl rfl rfl ?_
    refine w_mv (pc1 := 20) (st1 := [.int (p1 + i6_1)]) rfl rfl rfl ?_
    refine w_mv (pc1 := 21) (lv1 := [(1, .int (p1 + i6_1)), (0, .ref 9), (2, .int p2)]) (st1 := []) rfl rfl rfl ?_
    refine w_mv (pc1 := 24) (lv1 := [(2, .int (p2 + 1)), (1, .int (p1 + i6_1)), (0, .ref 9)]) (st1 := []) rfl rfl rfl ?_
    refine w_mv (pc1 := 4) (st1 := []) rfl rfl rfl ?_
    refine w_wk (l1 := [(0, .ref 9), (1, .int (p1 + i6_1)), (2, .int (p2 + 1))]) rfl ⟨rfl, rfl, rfl, trivial⟩ ?_
    refine hh d _ _ P (fun r N1 G1 kc1 ks1 q => ?_)
    exact c_acc (hP r N1 G1 _ _ q) (by omega) (by omega)
set_option maxRecDepth 20000 in
set_option maxHeartbeats 4000000 in
theorem k_19_0 {e1 : Int64} {N : Nat} {G : Nat → sx_C} {K : Option Value ⊕ Nat → Nat → (Nat → sx_C) → Nat → Nat → Prop} (hh : cT (6) sM_19 6 [(0, .ref 5), (1, .long e1), (3, .int 0), (4, .int 56)] [] (N) G (fun r N1 G1 kc1 ks1 => K r N1 G1 (kc1) (ks1))) : cT (6) sM_19 0 [(0, .ref 5), (1, .long e1)] [] N G K := by
  intro d dc ds P hP
  refine w_mv (pc1 := 1) (st1 := [.int 0]) rfl rfl rfl ?_
  refine w_mv (pc1 := 2) (lv1 := [(3, .int 0), (0, .ref 5), (1, .long e1)]) (st1 := []) rfl rfl rfl ?_
  refine w_mv (pc1 := 4) (st1 := [.int 56]) rfl rfl rfl ?_
  refine w_mv (pc1 := 6) (lv1 := [(4, .int 56), (3, .int 0), (0, .ref 5), (1, .long e1)]) (st1 := []) rfl rfl rfl ?_
  refine w_wk (l1 := [(0, .ref 5), (1, .long e1), (3, .int 0), (4, .int 56)]) rfl ⟨rfl, rfl, rfl, rfl, trivial⟩ ?_
  refine hh d _ _ P (fun r N1 G1 kc1 ks1 q => ?_)
  exact c_acc (hP r N1 G1 _ _ q) (by omega) (by omega)
