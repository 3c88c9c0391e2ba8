/-! BranchSlotFiller$Program.<init>(I)V -/
theorem e_X6_init_0 (sc : SC) (p0 : Nat) (x1 : Int32) (h : AH) : Run sc n_X6_init 0 [aD p0, aI x1] none [] h = bI (¬ ((x1 * (nI 5)) < 0 ∨ 67108864 < (x1 * (nI 5)).toNatClampNeg)) (Run sc n_X6_init 10 [aD p0, aI x1] none [aD h.1.length, aD p0] (hpush h (oI 0 (x1 * (nI 5)).toNatClampNeg (fun _ => 0)))) := by
  refine (s_go mt_X6_init dX6_init_0 rfl).trans ?_
  refine (s_go mt_X6_init dX6_init_1 rfl).trans ?_
  refine (s_go mt_X6_init dX6_init_4 rfl).trans ?_
  refine (s_go mt_X6_init dX6_init_5 rfl).trans ?_
  refine (s_go mt_X6_init dX6_init_6 rfl).trans ?_
  refine (s_go mt_X6_init dX6_init_7 rfl).trans ?_
  exact q_newarray (mk := fun m => oI 0 m (fun _ => 0)) mt_X6_init dX6_init_8 (fun _ => rfl)
theorem e_X6_init_10 (sc : SC) (p0 : Nat) (x1 : Int32) (q0 : Nat) (q1 : Nat) (h : AH) : Run sc n_X6_init 10 [aD p0, aI x1] none [aD q1, aD q0] h = bO (putF h q0 8 0 3 (aD q1)) (fun z => Run sc n_X6_init 13 [aD p0, aI x1] none [] z) := by
  exact q_putfield mt_X6_init dX6_init_10 rfl rfl rfl rfl
theorem e_X6_init_13 (sc : SC) (p0 : Nat) (x1 : Int32) (h : AH) : Run sc n_X6_init 13 [aD p0, aI x1] none [] h = some (.inl none, h) := by
  exact q_ret (c := (none, h)) mt_X6_init dX6_init_13 rfl
/-! BranchSlotFiller$Program.put(III)V -/
theorem e_X6_put_0 (sc : SC) (p0 : Nat) (x1 : Int32) (x2 : Int32) (x3 : Int32) (h : AH) : Run sc n_X6_put 0 [aD p0, aI x1, aI x2, aI x3] none [] h = bF (getF sc h (aD p0) 8 0) (fun z => Run sc n_X6_put 4 [aD p0, aI x1, aI x2, aI x3] none [z] h) := by
  refine (s_go mt_X6_put dX6_put_0 rfl).trans ?_
  exact q_getfield mt_X6_put dX6_put_1 rfl
theorem e_X6_put_4 (sc : SC) (p0 : Nat) (x1 : Int32) (x2 : Int32) (x3 : Int32) (q0 : Nat) (h : AH) : Run sc n_X6_put 4 [aD p0, aI x1, aI x2, aI x3] none [aD q0] h = bO (stI h (fun t => t == 0) q0 ((x1 * (nI 5)) + x2) x3) (fun z => Run sc n_X6_put 11 [aD p0, aI x1, aI x2, aI x3] none [] z) := by
  refine (s_go mt_X6_put dX6_put_4 rfl).trans ?_
  refine (s_go mt_X6_put dX6_put_5 rfl).trans ?_
  refine (s_go mt_X6_put dX6_put_6 rfl).trans ?_
  refine (s_go mt_X6_put dX6_put_7 rfl).trans ?_
  refine (s_go mt_X6_put dX6_put_8 rfl).trans ?_
  refine (s_go mt_X6_put dX6_put_9 rfl).trans ?_
  exact q_iastore mt_X6_put dX6_put_10
theorem e_X6_put_11 (sc : SC) (p0 : Nat) (x1 : Int32) (x2 : Int32) (x3 : Int32) (h : AH) : Run sc n_X6_put 11 [aD p0, aI x1, aI x2, aI x3] none [] h = some (.inl none, h) := by
  exact q_ret (c := (none, h)) mt_X6_put dX6_put_11 rfl
/-! BranchSlotFiller$Program.appendKind(I)I -/
theorem e_X6_appendKind_0 (sc : SC) (p0 : Nat) (x1 : Int32) (v2 : AV) (v3 : AV) (h : AH) : Run sc n_X6_appendKind 0 [aD p0, aI x1, v2, v3] none [] h = bF (getF sc h (aD p0) 8 1) (fun z => Run sc n_X6_appendKind 4 [aD p0, aI x1, v2, v3] none [z] h) := by
  refine (s_go mt_X6_appendKind dX6_appendKind_0 rfl).trans ?_
  exact q_getfield mt_X6_appendKind dX6_appendKind_1 rfl
theorem e_X6_appendKind_17 (sc : SC) (p0 : Nat) (x1 : Int32) (x2 : Int32) (x3 : Int32) (h : AH) : Run sc n_X6_appendKind 17 [aD p0, aI x1, aI x2, aI x3] none [] h = Run sc n_X6_appendKind (if (nI 5) ≤ x3 then 35 else 22) [aD p0, aI x1, aI x2, aI x3] none [] h := by
  refine (s_go mt_X6_appendKind dX6_appendKind_17 rfl).trans ?_
  refine (s_go mt_X6_appendKind dX6_appendKind_18 rfl).trans ?_
  exact q_icmp mt_X6_appendKind dX6_appendKind_19 (fun _ _ _ _ => rfl) rfl
theorem e_X6_appendKind_22 (sc : SC) (p0 : Nat) (x1 : Int32) (x2 : Int32) (x3 : Int32) (h : AH) : Run sc n_X6_appendKind 22 [aD p0, aI x1, aI x2, aI x3] none [] h = bI (rOK sc h (aD p0) 8 = true) (bC (Call sc n_X6_put [aD p0, aI x2, aI x3, aI (nI 0)] h) (fun v z => Run sc n_X6_appendKind 29 [aD p0, aI x1, aI x2, aI x3] none (v.toList ++ []) z) (fun E z => some (.inr E, z))) := by
  refine (s_go mt_X6_appendKind dX6_appendKind_22 rfl).trans ?_
  refine (s_go mt_X6_appendKind dX6_appendKind_23 rfl).trans ?_
  refine (s_go mt_X6_appendKind dX6_appendKind_24 rfl).trans ?_
  refine (s_go mt_X6_appendKind dX6_appendKind_25 rfl).trans ?_
  exact q_cV mt_X6_appendKind dX6_appendKind_26 rfl mt_X6_put rfl rfl rfl
theorem e_X6_appendKind_35 (sc : SC) (p0 : Nat) (x1 : Int32) (x2 : Int32) (x3 : Int32) (h : AH) : Run sc n_X6_appendKind 35 [aD p0, aI x1, aI x2, aI x3] none [] h = bI (rOK sc h (aD p0) 8 = true) (bC (Call sc n_X6_put [aD p0, aI x2, aI (nI 0), aI x1] h) (fun v z => Run sc n_X6_appendKind 42 [aD p0, aI x1, aI x2, aI x3] none (v.toList ++ []) z) (fun E z => some (.inr E, z))) := by
  refine (s_go mt_X6_appendKind dX6_appendKind_35 rfl).trans ?_
  refine (s_go mt_X6_appendKind dX6_appendKind_36 rfl).trans ?_
  refine (s_go mt_X6_appendKind dX6_appendKind_37 rfl).trans ?_
  refine (s_go mt_X6_appendKind dX6_appendKind_38 rfl).trans ?_
  exact q_cV mt_X6_appendKind dX6_appendKind_39 rfl mt_X6_put rfl rfl rfl
theorem e_X6_appendKind_4 (sc : SC) (p0 : Nat) (x1 : Int32) (v2 : AV) (v3 : AV) (y0 : Int32) (h : AH) : Run sc n_X6_appendKind 4 [aD p0, aI x1, v2, v3] none [aI y0] h = bF (getF sc h (aD p0) 8 1) (fun z => Run sc n_X6_appendKind 10 [aD p0, aI x1, aI y0, v3] none [z, aD p0] h) := by
  refine (s_go mt_X6_appendKind dX6_appendKind_4 rfl).trans ?_
  refine (s_go mt_X6_appendKind dX6_appendKind_5 rfl).trans ?_
  refine (s_go mt_X6_appendKind dX6_appendKind_6 rfl).trans ?_
  exact q_getfield mt_X6_appendKind dX6_appendKind_7 rfl
theorem e_X6_appendKind_29 (sc : SC) (p0 : Nat) (x1 : Int32) (x2 : Int32) (x3 : Int32) (h : AH) : Run sc n_X6_appendKind 29 [aD p0, aI x1, aI x2, aI x3] none [] h = Run sc n_X6_appendKind 17 [aD p0, aI x1, aI x2, aI (x3 + nI 1)] none [] h := by
  refine (s_go mt_X6_appendKind dX6_appendKind_29 rfl).trans ?_
  refine (s_go mt_X6_appendKind dX6_appendKind_32 rfl).trans ?_
  exact rfl
theorem e_X6_appendKind_42 (sc : SC) (p0 : Nat) (x1 : Int32) (x2 : Int32) (x3 : Int32) (h : AH) : Run sc n_X6_appendKind 42 [aD p0, aI x1, aI x2, aI x3] none [] h = some (.inl (some (aI x2)), h) := by
  refine (s_go mt_X6_appendKind dX6_appendKind_42 rfl).trans ?_
  exact q_ret (c := (some (aI x2), h)) mt_X6_appendKind dX6_appendKind_43 rfl
theorem e_X6_appendKind_10 (sc : SC) (p0 : Nat) (x1 : Int32) (x2 : Int32) (v3 : AV) (q0 : Nat) (y1 : Int32) (h : AH) : Run sc n_X6_appendKind 10 [aD p0, aI x1, aI x2, v3] none [aI y1, aD q0] h = bO (putF h q0 8 1 0 (aI (y1 + (nI 1)))) (fun z => Run sc n_X6_appendKind 15 [aD p0, aI x1, aI x2, v3] none [] z) := by
  refine (s_go mt_X6_appendKind dX6_appendKind_10 rfl).trans ?_
  refine (s_go mt_X6_appendKind dX6_appendKind_11 rfl).trans ?_
  exact q_putfield mt_X6_appendKind dX6_appendKind_12 rfl rfl rfl rfl
theorem e_X6_appendKind_15 (sc : SC) (p0 : Nat) (x1 : Int32) (x2 : Int32) (v3 : AV) (h : AH) : Run sc n_X6_appendKind 15 [aD p0, aI x1, aI x2, v3] none [] h = Run sc n_X6_appendKind 17 [aD p0, aI x1, aI x2, aI (nI 0)] none [] h := by
  refine (s_go mt_X6_appendKind dX6_appendKind_15 rfl).trans ?_
  refine (s_go mt_X6_appendKind dX6_appendKind_16 rfl).trans ?_
  exact rfl
/-! BranchSlotFiller$Program.part(II)I -/
theorem e_X6_part_0 (sc : SC) (p0 : Nat) (x1 : Int32) (x2 : Int32) (h : AH) : Run sc n_X6_part 0 [aD p0, aI x1, aI x2] none [] h = bF (getF sc h (aD p0) 8 0) (fun z => Run sc n_X6_part 4 [aD p0, aI x1, aI x2] none [z] h) := by
  refine (s_go mt_X6_part dX6_part_0 rfl).trans ?_
  exact q_getfield mt_X6_part dX6_part_1 rfl
theorem e_X6_part_4 (sc : SC) (p0 : Nat) (x1 : Int32) (x2 : Int32) (q0 : Nat) (h : AH) : Run sc n_X6_part 4 [aD p0, aI x1, aI x2] none [aD q0] h = bO (ldI sc h (fun t => t == 0) (aD q0) ((x1 * (nI 5)) + x2)) (fun z => Run sc n_X6_part 10 [aD p0, aI x1, aI x2] none [aI z] h) := by
  refine (s_go mt_X6_part dX6_part_4 rfl).trans ?_
  refine (s_go mt_X6_part dX6_part_5 rfl).trans ?_
  refine (s_go mt_X6_part dX6_part_6 rfl).trans ?_
  refine (s_go mt_X6_part dX6_part_7 rfl).trans ?_
  refine (s_go mt_X6_part dX6_part_8 rfl).trans ?_
  exact q_iaload mt_X6_part dX6_part_9
theorem e_X6_part_10 (sc : SC) (p0 : Nat) (x1 : Int32) (x2 : Int32) (y0 : Int32) (h : AH) : Run sc n_X6_part 10 [aD p0, aI x1, aI x2] none [aI y0] h = some (.inl (some (aI y0)), h) := by
  exact q_ret (c := (some (aI y0), h)) mt_X6_part dX6_part_10 rfl
/-! BranchSlotFiller$Program.kind(I)LBranchSlotFiller$Kind; -/
theorem e_X6_kind_0 (sc : SC) (p0 : Nat) (x1 : Int32) (h : AH) : Run sc n_X6_kind 0 [aD p0, aI x1] none [] h = bF (getF sc h (aD p0) 8 0) (fun z => Run sc n_X6_kind 7 [aD p0, aI x1] none [z, aC 13] h) := by
  refine (s_go mt_X6_kind dX6_kind_0 rfl).trans ?_
  refine (s_go mt_X6_kind dX6_kind_3 rfl).trans ?_
  exact q_getfield mt_X6_kind dX6_kind_4 rfl
theorem e_X6_kind_7 (sc : SC) (p0 : Nat) (x1 : Int32) (d0 : Nat) (q1 : Nat) (h : AH) : Run sc n_X6_kind 7 [aD p0, aI x1] none [aD q1, aC d0] h = bO (ldI sc h (fun t => t == 0) (aD q1) ((x1 * (nI 5)) + (nI 0))) (fun z => Run sc n_X6_kind 13 [aD p0, aI x1] none [aI z, aC d0] h) := by
  refine (s_go mt_X6_kind dX6_kind_7 rfl).trans ?_
  refine (s_go mt_X6_kind dX6_kind_8 rfl).trans ?_
  refine (s_go mt_X6_kind dX6_kind_9 rfl).trans ?_
  refine (s_go mt_X6_kind dX6_kind_10 rfl).trans ?_
  refine (s_go mt_X6_kind dX6_kind_11 rfl).trans ?_
  exact q_iaload mt_X6_kind dX6_kind_12
theorem e_X6_kind_13 (sc : SC) (p0 : Nat) (x1 : Int32) (d0 : Nat) (y1 : Int32) (h : AH) : Run sc n_X6_kind 13 [aD p0, aI x1] none [aI y1, aC d0] h = bO (ldR sc h (aC d0) y1) (fun z => Run sc n_X6_kind 14 [aD p0, aI x1] none [z] h) := by
  exact q_aaload mt_X6_kind dX6_kind_13
theorem e_X6_kind_14 (sc : SC) (p0 : Nat) (x1 : Int32) (d0 : Nat) (h : AH) : Run sc n_X6_kind 14 [aD p0, aI x1] none [aC d0] h = some (.inl (some (aC d0)), h) := by
  exact q_ret (c := (some (aC d0), h)) mt_X6_kind dX6_kind_14 rfl
/-! BranchSlotFiller$Program.isBranch(I)Z -/
theorem e_X6_isBranch_0 (sc : SC) (p0 : Nat) (x1 : Int32) (h : AH) : Run sc n_X6_isBranch 0 [aD p0, aI x1] none [] h = bF (getF sc h (aD p0) 8 0) (fun z => Run sc n_X6_isBranch 7 [aD p0, aI x1] none [z, aC 13] h) := by
  refine (s_go mt_X6_isBranch dX6_isBranch_0 rfl).trans ?_
  refine (s_go mt_X6_isBranch dX6_isBranch_3 rfl).trans ?_
  exact q_getfield mt_X6_isBranch dX6_isBranch_4 rfl
theorem e_X6_isBranch_7 (sc : SC) (p0 : Nat) (x1 : Int32) (d0 : Nat) (q1 : Nat) (h : AH) : Run sc n_X6_isBranch 7 [aD p0, aI x1] none [aD q1, aC d0] h = bO (ldI sc h (fun t => t == 0) (aD q1) ((x1 * (nI 5)) + (nI 0))) (fun z => Run sc n_X6_isBranch 13 [aD p0, aI x1] none [aI z, aC d0] h) := by
  refine (s_go mt_X6_isBranch dX6_isBranch_7 rfl).trans ?_
  refine (s_go mt_X6_isBranch dX6_isBranch_8 rfl).trans ?_
  refine (s_go mt_X6_isBranch dX6_isBranch_9 rfl).trans ?_
  refine (s_go mt_X6_isBranch dX6_isBranch_10 rfl).trans ?_
  refine (s_go mt_X6_isBranch dX6_isBranch_11 rfl).trans ?_
  exact q_iaload mt_X6_isBranch dX6_isBranch_12
theorem e_X6_isBranch_13 (sc : SC) (p0 : Nat) (x1 : Int32) (d0 : Nat) (y1 : Int32) (h : AH) : Run sc n_X6_isBranch 13 [aD p0, aI x1] none [aI y1, aC d0] h = bO (ldR sc h (aC d0) y1) (fun z => Run sc n_X6_isBranch 14 [aD p0, aI x1] none [z] h) := by
  exact q_aaload mt_X6_isBranch dX6_isBranch_13
theorem e_X6_isBranch_14 (sc : SC) (p0 : Nat) (x1 : Int32) (d0 : Nat) (h : AH) : Run sc n_X6_isBranch 14 [aD p0, aI x1] none [aC d0] h = bF (getF sc h (aC d0) 100 6) (fun z => Run sc n_X6_isBranch 17 [aD p0, aI x1] none [z] h) := by
  exact q_getfield mt_X6_isBranch dX6_isBranch_14 rfl
theorem e_X6_isBranch_17 (sc : SC) (p0 : Nat) (x1 : Int32) (y0 : Int32) (h : AH) : Run sc n_X6_isBranch 17 [aD p0, aI x1] none [aI y0] h = bI (retK (some FieldType.boolean) y0 = true) (some (.inl (some (aI y0)), h)) := by
  exact q_iret mt_X6_isBranch dX6_isBranch_17
/-! BranchSlotFiller$Program.target(I)I -/
theorem e_X6_target_0 (sc : SC) (p0 : Nat) (x1 : Int32) (h : AH) : Run sc n_X6_target 0 [aD p0, aI x1] none [] h = bF (getF sc h (aD p0) 8 0) (fun z => Run sc n_X6_target 4 [aD p0, aI x1] none [z] h) := by
  refine (s_go mt_X6_target dX6_target_0 rfl).trans ?_
  exact q_getfield mt_X6_target dX6_target_1 rfl
theorem e_X6_target_4 (sc : SC) (p0 : Nat) (x1 : Int32) (q0 : Nat) (h : AH) : Run sc n_X6_target 4 [aD p0, aI x1] none [aD q0] h = bO (ldI sc h (fun t => t == 0) (aD q0) ((x1 * (nI 5)) + (nI 3))) (fun z => Run sc n_X6_target 10 [aD p0, aI x1] none [aI z] h) := by
  refine (s_go mt_X6_target dX6_target_4 rfl).trans ?_
  refine (s_go mt_X6_target dX6_target_5 rfl).trans ?_
  refine (s_go mt_X6_target dX6_target_6 rfl).trans ?_
  refine (s_go mt_X6_target dX6_target_7 rfl).trans ?_
  refine (s_go mt_X6_target dX6_target_8 rfl).trans ?_
  exact q_iaload mt_X6_target dX6_target_9
theorem e_X6_target_10 (sc : SC) (p0 : Nat) (x1 : Int32) (y0 : Int32) (h : AH) : Run sc n_X6_target 10 [aD p0, aI x1] none [aI y0] h = some (.inl (some (aI y0)), h) := by
  exact q_ret (c := (some (aI y0), h)) mt_X6_target dX6_target_10 rfl
/-! BranchSlotFiller$Program.appendAll(LBranchSlotFiller$Program;)V -/
theorem e_X6_appendAll_0 (sc : SC) (p0 : Nat) (p1 : Nat) (v2 : AV) (v3 : AV) (v4 : AV) (h : AH) : Run sc n_X6_appendAll 0 [aD p0, aD p1, v2, v3, v4] none [] h = bF (getF sc h (aD p0) 8 1) (fun z => Run sc n_X6_appendAll 4 [aD p0, aD p1, v2, v3, v4] none [z] h) := by
  refine (s_go mt_X6_appendAll dX6_appendAll_0 rfl).trans ?_
  exact q_getfield mt_X6_appendAll dX6_appendAll_1 rfl
theorem e_X6_appendAll_7 (sc : SC) (p0 : Nat) (p1 : Nat) (x2 : Int32) (x3 : Int32) (v4 : AV) (h : AH) : Run sc n_X6_appendAll 7 [aD p0, aD p1, aI x2, aI x3, v4] none [] h = bF (getF sc h (aD p1) 8 1) (fun z => Run sc n_X6_appendAll 12 [aD p0, aD p1, aI x2, aI x3, v4] none [z, aI x3] h) := by
  refine (s_go mt_X6_appendAll dX6_appendAll_7 rfl).trans ?_
  refine (s_go mt_X6_appendAll dX6_appendAll_8 rfl).trans ?_
  exact q_getfield mt_X6_appendAll dX6_appendAll_9 rfl
theorem e_X6_appendAll_15 (sc : SC) (p0 : Nat) (p1 : Nat) (x2 : Int32) (x3 : Int32) (v4 : AV) (h : AH) : Run sc n_X6_appendAll 15 [aD p0, aD p1, aI x2, aI x3, v4] none [] h = bI (rOK sc h (aD p1) 8 = true) (bC (Call sc n_X6_part [aD p1, aI x3, aI (nI 0)] h) (fun v z => Run sc n_X6_appendAll 22 [aD p0, aD p1, aI x2, aI x3, v4] none (v.toList ++ [aD p0]) z) (fun E z => some (.inr E, z))) := by
  refine (s_go mt_X6_appendAll dX6_appendAll_15 rfl).trans ?_
  refine (s_go mt_X6_appendAll dX6_appendAll_16 rfl).trans ?_
  refine (s_go mt_X6_appendAll dX6_appendAll_17 rfl).trans ?_
  refine (s_go mt_X6_appendAll dX6_appendAll_18 rfl).trans ?_
  exact q_cV mt_X6_appendAll dX6_appendAll_19 rfl mt_X6_part rfl rfl rfl
theorem e_X6_appendAll_65 (sc : SC) (p0 : Nat) (p1 : Nat) (x2 : Int32) (x3 : Int32) (x4 : Int32) (q0 : Nat) (y1 : Int32) (y2 : Int32) (h : AH) : Run sc n_X6_appendAll 65 [aD p0, aD p1, aI x2, aI x3, aI x4] none [aI y2, aI y1, aD q0] h = bI (rOK sc h (aD p1) 8 = true) (bC (Call sc n_X6_target [aD p1, aI x3] h) (fun v z => Run sc n_X6_appendAll 71 [aD p0, aD p1, aI x2, aI x3, aI x4] none (v.toList ++ [aI x2, aI y2, aI y1, aD q0]) z) (fun E z => some (.inr E, z))) := by
  refine (s_go mt_X6_appendAll dX6_appendAll_65 rfl).trans ?_
  refine (s_go mt_X6_appendAll dX6_appendAll_66 rfl).trans ?_
  refine (s_go mt_X6_appendAll dX6_appendAll_67 rfl).trans ?_
  exact q_cV mt_X6_appendAll dX6_appendAll_68 rfl mt_X6_target rfl rfl rfl
theorem e_X6_appendAll_75 (sc : SC) (p0 : Nat) (p1 : Nat) (x2 : Int32) (x3 : Int32) (x4 : Int32) (q0 : Nat) (y1 : Int32) (y2 : Int32) (h : AH) : Run sc n_X6_appendAll 75 [aD p0, aD p1, aI x2, aI x3, aI x4] none [aI y2, aI y1, aD q0] h = bI (rOK sc h (aD p1) 8 = true) (bC (Call sc n_X6_part [aD p1, aI x3, aI (nI 3)] h) (fun v z => Run sc n_X6_appendAll 81 [aD p0, aD p1, aI x2, aI x3, aI x4] none (v.toList ++ [aI y2, aI y1, aD q0]) z) (fun E z => some (.inr E, z))) := by
  refine (s_go mt_X6_appendAll dX6_appendAll_75 rfl).trans ?_
  refine (s_go mt_X6_appendAll dX6_appendAll_76 rfl).trans ?_
  refine (s_go mt_X6_appendAll dX6_appendAll_77 rfl).trans ?_
  exact q_cV mt_X6_appendAll dX6_appendAll_78 rfl mt_X6_part rfl rfl rfl
theorem e_X6_appendAll_81 (sc : SC) (p0 : Nat) (p1 : Nat) (x2 : Int32) (x3 : Int32) (x4 : Int32) (q0 : Nat) (y1 : Int32) (y2 : Int32) (y3 : Int32) (h : AH) : Run sc n_X6_appendAll 81 [aD p0, aD p1, aI x2, aI x3, aI x4] none [aI y3, aI y2, aI y1, aD q0] h = bI (rOK sc h (aD q0) 8 = true) (bC (Call sc n_X6_put [aD q0, aI y1, aI y2, aI y3] h) (fun v z => Run sc n_X6_appendAll 84 [aD p0, aD p1, aI x2, aI x3, aI x4] none (v.toList ++ []) z) (fun E z => some (.inr E, z))) := by
  exact q_cV mt_X6_appendAll dX6_appendAll_81 rfl mt_X6_put rfl rfl rfl
theorem e_X6_appendAll_90 (sc : SC) (p0 : Nat) (p1 : Nat) (x2 : Int32) (x3 : Int32) (v4 : AV) (h : AH) : Run sc n_X6_appendAll 90 [aD p0, aD p1, aI x2, aI x3, v4] none [] h = some (.inl none, h) := by
  exact q_ret (c := (none, h)) mt_X6_appendAll dX6_appendAll_90 rfl
theorem e_X6_appendAll_4 (sc : SC) (p0 : Nat) (p1 : Nat) (v2 : AV) (v3 : AV) (v4 : AV) (y0 : Int32) (h : AH) : Run sc n_X6_appendAll 4 [aD p0, aD p1, v2, v3, v4] none [aI y0] h = Run sc n_X6_appendAll 7 [aD p0, aD p1, aI y0, aI (nI 0), v4] none [] h := by
  refine (s_go mt_X6_appendAll dX6_appendAll_4 rfl).trans ?_
  refine (s_go mt_X6_appendAll dX6_appendAll_5 rfl).trans ?_
  refine (s_go mt_X6_appendAll dX6_appendAll_6 rfl).trans ?_
  exact rfl
theorem e_X6_appendAll_12 (sc : SC) (p0 : Nat) (p1 : Nat) (x2 : Int32) (x3 : Int32) (v4 : AV) (y0 : Int32) (y1 : Int32) (h : AH) : Run sc n_X6_appendAll 12 [aD p0, aD p1, aI x2, aI x3, v4] none [aI y1, aI y0] h = Run sc n_X6_appendAll (if y1 ≤ y0 then 90 else 15) [aD p0, aD p1, aI x2, aI x3, v4] none [] h := by
  exact q_icmp mt_X6_appendAll dX6_appendAll_12 (fun _ _ _ _ => rfl) rfl
theorem e_X6_appendAll_22 (sc : SC) (p0 : Nat) (p1 : Nat) (x2 : Int32) (x3 : Int32) (v4 : AV) (q0 : Nat) (y1 : Int32) (h : AH) : Run sc n_X6_appendAll 22 [aD p0, aD p1, aI x2, aI x3, v4] none [aI y1, aD q0] h = bI (rOK sc h (aD q0) 8 = true) (bC (Call sc n_X6_appendKind [aD q0, aI y1] h) (fun v z => Run sc n_X6_appendAll 25 [aD p0, aD p1, aI x2, aI x3, v4] none (v.toList ++ []) z) (fun E z => some (.inr E, z))) := by
  exact q_cV mt_X6_appendAll dX6_appendAll_22 rfl mt_X6_appendKind rfl rfl rfl
theorem e_X6_appendAll_71 (sc : SC) (p0 : Nat) (p1 : Nat) (x2 : Int32) (x3 : Int32) (x4 : Int32) (q0 : Nat) (y1 : Int32) (y2 : Int32) (y3 : Int32) (y4 : Int32) (h : AH) : Run sc n_X6_appendAll 71 [aD p0, aD p1, aI x2, aI x3, aI x4] none [aI y4, aI y3, aI y2, aI y1, aD q0] h = Run sc n_X6_appendAll 81 [aD p0, aD p1, aI x2, aI x3, aI x4] none [aI (y3 + y4), aI y2, aI y1, aD q0] h := by
  refine (s_go mt_X6_appendAll dX6_appendAll_71 rfl).trans ?_
  refine (s_go mt_X6_appendAll dX6_appendAll_72 rfl).trans ?_
  exact rfl
theorem e_X6_appendAll_84 (sc : SC) (p0 : Nat) (p1 : Nat) (x2 : Int32) (x3 : Int32) (x4 : Int32) (h : AH) : Run sc n_X6_appendAll 84 [aD p0, aD p1, aI x2, aI x3, aI x4] none [] h = Run sc n_X6_appendAll 7 [aD p0, aD p1, aI x2, aI (x3 + nI 1), aI x4] none [] h := by
  refine (s_go mt_X6_appendAll dX6_appendAll_84 rfl).trans ?_
  refine (s_go mt_X6_appendAll dX6_appendAll_87 rfl).trans ?_
  exact rfl
theorem e_X6_appendAll_25 (sc : SC) (p0 : Nat) (p1 : Nat) (x2 : Int32) (x3 : Int32) (v4 : AV) (y0 : Int32) (h : AH) : Run sc n_X6_appendAll 25 [aD p0, aD p1, aI x2, aI x3, v4] none [aI y0] h = bI (rOK sc h (aD p1) 8 = true) (bC (Call sc n_X6_part [aD p1, aI x3, aI (nI 1)] h) (fun v z => Run sc n_X6_appendAll 37 [aD p0, aD p1, aI x2, aI x3, aI y0] none (v.toList ++ [aI (nI 1), aI y0, aD p0]) z) (fun E z => some (.inr E, z))) := by
  refine (s_go mt_X6_appendAll dX6_appendAll_25 rfl).trans ?_
  refine (s_go mt_X6_appendAll dX6_appendAll_27 rfl).trans ?_
  refine (s_go mt_X6_appendAll dX6_appendAll_28 rfl).trans ?_
  refine (s_go mt_X6_appendAll dX6_appendAll_30 rfl).trans ?_
  refine (s_go mt_X6_appendAll dX6_appendAll_31 rfl).trans ?_
  refine (s_go mt_X6_appendAll dX6_appendAll_32 rfl).trans ?_
  refine (s_go mt_X6_appendAll dX6_appendAll_33 rfl).trans ?_
  exact q_cV mt_X6_appendAll dX6_appendAll_34 rfl mt_X6_part rfl rfl rfl
theorem e_X6_appendAll_37 (sc : SC) (p0 : Nat) (p1 : Nat) (x2 : Int32) (x3 : Int32) (x4 : Int32) (q0 : Nat) (y1 : Int32) (y2 : Int32) (y3 : Int32) (h : AH) : Run sc n_X6_appendAll 37 [aD p0, aD p1, aI x2, aI x3, aI x4] none [aI y3, aI y2, aI y1, aD q0] h = bI (rOK sc h (aD q0) 8 = true) (bC (Call sc n_X6_put [aD q0, aI y1, aI y2, aI y3] h) (fun v z => Run sc n_X6_appendAll 40 [aD p0, aD p1, aI x2, aI x3, aI x4] none (v.toList ++ []) z) (fun E z => some (.inr E, z))) := by
  exact q_cV mt_X6_appendAll dX6_appendAll_37 rfl mt_X6_put rfl rfl rfl
theorem e_X6_appendAll_40 (sc : SC) (p0 : Nat) (p1 : Nat) (x2 : Int32) (x3 : Int32) (x4 : Int32) (h : AH) : Run sc n_X6_appendAll 40 [aD p0, aD p1, aI x2, aI x3, aI x4] none [] h = bI (rOK sc h (aD p1) 8 = true) (bC (Call sc n_X6_part [aD p1, aI x3, aI (nI 2)] h) (fun v z => Run sc n_X6_appendAll 50 [aD p0, aD p1, aI x2, aI x3, aI x4] none (v.toList ++ [aI (nI 2), aI x4, aD p0]) z) (fun E z => some (.inr E, z))) := by
  refine (s_go mt_X6_appendAll dX6_appendAll_40 rfl).trans ?_
  refine (s_go mt_X6_appendAll dX6_appendAll_41 rfl).trans ?_
  refine (s_go mt_X6_appendAll dX6_appendAll_43 rfl).trans ?_
  refine (s_go mt_X6_appendAll dX6_appendAll_44 rfl).trans ?_
  refine (s_go mt_X6_appendAll dX6_appendAll_45 rfl).trans ?_
  refine (s_go mt_X6_appendAll dX6_appendAll_46 rfl).trans ?_
  exact q_cV mt_X6_appendAll dX6_appendAll_47 rfl mt_X6_part rfl rfl rfl
theorem e_X6_appendAll_50 (sc : SC) (p0 : Nat) (p1 : Nat) (x2 : Int32) (x3 : Int32) (x4 : Int32) (q0 : Nat) (y1 : Int32) (y2 : Int32) (y3 : Int32) (h : AH) : Run sc n_X6_appendAll 50 [aD p0, aD p1, aI x2, aI x3, aI x4] none [aI y3, aI y2, aI y1, aD q0] h = bI (rOK sc h (aD q0) 8 = true) (bC (Call sc n_X6_put [aD q0, aI y1, aI y2, aI y3] h) (fun v z => Run sc n_X6_appendAll 53 [aD p0, aD p1, aI x2, aI x3, aI x4] none (v.toList ++ []) z) (fun E z => some (.inr E, z))) := by
  exact q_cV mt_X6_appendAll dX6_appendAll_50 rfl mt_X6_put rfl rfl rfl
theorem e_X6_appendAll_53 (sc : SC) (p0 : Nat) (p1 : Nat) (x2 : Int32) (x3 : Int32) (x4 : Int32) (h : AH) : Run sc n_X6_appendAll 53 [aD p0, aD p1, aI x2, aI x3, aI x4] none [] h = bI (rOK sc h (aD p1) 8 = true) (bC (Call sc n_X6_isBranch [aD p1, aI x3] h) (fun v z => Run sc n_X6_appendAll 62 [aD p0, aD p1, aI x2, aI x3, aI x4] none (v.toList ++ [aI (nI 3), aI x4, aD p0]) z) (fun E z => some (.inr E, z))) := by
  refine (s_go mt_X6_appendAll dX6_appendAll_53 rfl).trans ?_
  refine (s_go mt_X6_appendAll dX6_appendAll_54 rfl).trans ?_
  refine (s_go mt_X6_appendAll dX6_appendAll_56 rfl).trans ?_
  refine (s_go mt_X6_appendAll dX6_appendAll_57 rfl).trans ?_
  refine (s_go mt_X6_appendAll dX6_appendAll_58 rfl).trans ?_
  exact q_cV mt_X6_appendAll dX6_appendAll_59 rfl mt_X6_isBranch rfl rfl rfl
theorem e_X6_appendAll_62 (sc : SC) (p0 : Nat) (p1 : Nat) (x2 : Int32) (x3 : Int32) (x4 : Int32) (q0 : Nat) (y1 : Int32) (y2 : Int32) (y3 : Int32) (h : AH) : Run sc n_X6_appendAll 62 [aD p0, aD p1, aI x2, aI x3, aI x4] none [aI y3, aI y2, aI y1, aD q0] h = Run sc n_X6_appendAll (if y3 = 0 then 75 else 65) [aD p0, aD p1, aI x2, aI x3, aI x4] none [aI y2, aI y1, aD q0] h := by
  exact q_if mt_X6_appendAll dX6_appendAll_62 (fun _ _ _ _ => rfl) rfl
/-! BranchSlotFiller$Program.has(I)Z -/
theorem e_X6_has_0 (sc : SC) (p0 : Nat) (x1 : Int32) (h : AH) : Run sc n_X6_has 0 [aD p0, aI x1] none [] h = Run sc n_X6_has (if x1 < 0 then 16 else 4) [aD p0, aI x1] none [] h := by
  refine (s_go mt_X6_has dX6_has_0 rfl).trans ?_
  exact q_if mt_X6_has dX6_has_1 (fun _ _ _ _ => rfl) rfl
theorem e_X6_has_4 (sc : SC) (p0 : Nat) (x1 : Int32) (h : AH) : Run sc n_X6_has 4 [aD p0, aI x1] none [] h = bF (getF sc h (aD p0) 8 1) (fun z => Run sc n_X6_has 9 [aD p0, aI x1] none [z, aI x1] h) := by
  refine (s_go mt_X6_has dX6_has_4 rfl).trans ?_
  refine (s_go mt_X6_has dX6_has_5 rfl).trans ?_
  exact q_getfield mt_X6_has dX6_has_6 rfl
theorem e_X6_has_12 (sc : SC) (p0 : Nat) (x1 : Int32) (h : AH) : Run sc n_X6_has 12 [aD p0, aI x1] none [] h = Run sc n_X6_has 17 [aD p0, aI x1] none [aI (nI 1)] h := by
  refine (s_go mt_X6_has dX6_has_12 rfl).trans ?_
  refine (s_go mt_X6_has dX6_has_13 rfl).trans ?_
  exact rfl
theorem e_X6_has_16 (sc : SC) (p0 : Nat) (x1 : Int32) (h : AH) : Run sc n_X6_has 16 [aD p0, aI x1] none [] h = Run sc n_X6_has 17 [aD p0, aI x1] none [aI (nI 0)] h := by
  refine (s_go mt_X6_has dX6_has_16 rfl).trans ?_
  exact rfl
theorem e_X6_has_17 (sc : SC) (p0 : Nat) (x1 : Int32) (y0 : Int32) (h : AH) : Run sc n_X6_has 17 [aD p0, aI x1] none [aI y0] h = bI (retK (some FieldType.boolean) y0 = true) (some (.inl (some (aI y0)), h)) := by
  exact q_iret mt_X6_has dX6_has_17
theorem e_X6_has_9 (sc : SC) (p0 : Nat) (x1 : Int32) (y0 : Int32) (y1 : Int32) (h : AH) : Run sc n_X6_has 9 [aD p0, aI x1] none [aI y1, aI y0] h = Run sc n_X6_has (if y1 ≤ y0 then 16 else 12) [aD p0, aI x1] none [] h := by
  exact q_icmp mt_X6_has dX6_has_9 (fun _ _ _ _ => rfl) rfl
/-! BranchSlotFiller$Program.copyFrom(LBranchSlotFiller$Program;)V -/
theorem e_X6_copyFrom_0 (sc : SC) (p0 : Nat) (p1 : Nat) (h : AH) : Run sc n_X6_copyFrom 0 [aD p0, aD p1] none [] h = bF (getF sc h (aD p1) 8 1) (fun z => Run sc n_X6_copyFrom 5 [aD p0, aD p1] none [z, aD p0] h) := by
  refine (s_go mt_X6_copyFrom dX6_copyFrom_0 rfl).trans ?_
  refine (s_go mt_X6_copyFrom dX6_copyFrom_1 rfl).trans ?_
  exact q_getfield mt_X6_copyFrom dX6_copyFrom_2 rfl
theorem e_X6_copyFrom_5 (sc : SC) (p0 : Nat) (p1 : Nat) (q0 : Nat) (y1 : Int32) (h : AH) : Run sc n_X6_copyFrom 5 [aD p0, aD p1] none [aI y1, aD q0] h = bO (putF h q0 8 1 0 (aI y1)) (fun z => Run sc n_X6_copyFrom 8 [aD p0, aD p1] none [] z) := by
  exact q_putfield mt_X6_copyFrom dX6_copyFrom_5 rfl rfl rfl rfl
theorem e_X6_copyFrom_8 (sc : SC) (p0 : Nat) (p1 : Nat) (h : AH) : Run sc n_X6_copyFrom 8 [aD p0, aD p1] none [] h = bF (getF sc h (aD p1) 8 0) (fun z => Run sc n_X6_copyFrom 12 [aD p0, aD p1] none [z] h) := by
  refine (s_go mt_X6_copyFrom dX6_copyFrom_8 rfl).trans ?_
  exact q_getfield mt_X6_copyFrom dX6_copyFrom_9 rfl
theorem e_X6_copyFrom_12 (sc : SC) (p0 : Nat) (p1 : Nat) (q0 : Nat) (h : AH) : Run sc n_X6_copyFrom 12 [aD p0, aD p1] none [aD q0] h = bF (getF sc h (aD p0) 8 0) (fun z => Run sc n_X6_copyFrom 17 [aD p0, aD p1] none [z, aI (nI 0), aD q0] h) := by
  refine (s_go mt_X6_copyFrom dX6_copyFrom_12 rfl).trans ?_
  refine (s_go mt_X6_copyFrom dX6_copyFrom_13 rfl).trans ?_
  exact q_getfield mt_X6_copyFrom dX6_copyFrom_14 rfl
theorem e_X6_copyFrom_17 (sc : SC) (p0 : Nat) (p1 : Nat) (q0 : Nat) (y1 : Int32) (q2 : Nat) (h : AH) : Run sc n_X6_copyFrom 17 [aD p0, aD p1] none [aD q2, aI y1, aD q0] h = bF (getF sc h (aD p0) 8 1) (fun z => Run sc n_X6_copyFrom 22 [aD p0, aD p1] none [z, aI (nI 0), aD q2, aI y1, aD q0] h) := by
  refine (s_go mt_X6_copyFrom dX6_copyFrom_17 rfl).trans ?_
  refine (s_go mt_X6_copyFrom dX6_copyFrom_18 rfl).trans ?_
  exact q_getfield mt_X6_copyFrom dX6_copyFrom_19 rfl
theorem e_X6_copyFrom_22 (sc : SC) (p0 : Nat) (p1 : Nat) (q0 : Nat) (y1 : Int32) (q2 : Nat) (y3 : Int32) (y4 : Int32) (h : AH) : Run sc n_X6_copyFrom 22 [aD p0, aD p1] none [aI y4, aI y3, aD q2, aI y1, aD q0] h = bO (copyA sc h (aD q0) y1 q2 y3 (y4 * (nI 5))) (fun z => Run sc n_X6_copyFrom 27 [aD p0, aD p1] none [] z) := by
  refine (s_go mt_X6_copyFrom dX6_copyFrom_22 rfl).trans ?_
  refine (s_go mt_X6_copyFrom dX6_copyFrom_23 rfl).trans ?_
  exact q_copy mt_X6_copyFrom dX6_copyFrom_24 rfl (Nat.le_of_ble_eq_true rfl)
theorem e_X6_copyFrom_27 (sc : SC) (p0 : Nat) (p1 : Nat) (h : AH) : Run sc n_X6_copyFrom 27 [aD p0, aD p1] none [] h = some (.inl none, h) := by
  exact q_ret (c := (none, h)) mt_X6_copyFrom dX6_copyFrom_27 rfl
/-! BranchSlotFiller$Program.entryOf(I)I -/
theorem e_X6_entryOf_0 (sc : SC) (p0 : Nat) (x1 : Int32) (v2 : AV) (v3 : AV) (h : AH) : Run sc n_X6_entryOf 0 [aD p0, aI x1, v2, v3] none [] h = Run sc n_X6_entryOf 4 [aD p0, aI x1, aI x1, aI (nI 0)] none [] h := by
  refine (s_go mt_X6_entryOf dX6_entryOf_0 rfl).trans ?_
  refine (s_go mt_X6_entryOf dX6_entryOf_1 rfl).trans ?_
  refine (s_go mt_X6_entryOf dX6_entryOf_2 rfl).trans ?_
  refine (s_go mt_X6_entryOf dX6_entryOf_3 rfl).trans ?_
  exact rfl
theorem e_X6_entryOf_4 (sc : SC) (p0 : Nat) (x1 : Int32) (x2 : Int32) (x3 : Int32) (h : AH) : Run sc n_X6_entryOf 4 [aD p0, aI x1, aI x2, aI x3] none [] h = Run sc n_X6_entryOf (if x1 ≤ x3 then 26 else 9) [aD p0, aI x1, aI x2, aI x3] none [] h := by
  refine (s_go mt_X6_entryOf dX6_entryOf_4 rfl).trans ?_
  refine (s_go mt_X6_entryOf dX6_entryOf_5 rfl).trans ?_
  exact q_icmp mt_X6_entryOf dX6_entryOf_6 (fun _ _ _ _ => rfl) rfl
theorem e_X6_entryOf_9 (sc : SC) (p0 : Nat) (x1 : Int32) (x2 : Int32) (x3 : Int32) (h : AH) : Run sc n_X6_entryOf 9 [aD p0, aI x1, aI x2, aI x3] none [] h = bI (rOK sc h (aD p0) 8 = true) (bC (Call sc n_X6_isBranch [aD p0, aI x3] h) (fun v z => Run sc n_X6_entryOf 14 [aD p0, aI x1, aI x2, aI x3] none (v.toList ++ []) z) (fun E z => some (.inr E, z))) := by
  refine (s_go mt_X6_entryOf dX6_entryOf_9 rfl).trans ?_
  refine (s_go mt_X6_entryOf dX6_entryOf_10 rfl).trans ?_
  exact q_cV mt_X6_entryOf dX6_entryOf_11 rfl mt_X6_isBranch rfl rfl rfl
theorem e_X6_entryOf_17 (sc : SC) (p0 : Nat) (x1 : Int32) (x2 : Int32) (x3 : Int32) (h : AH) : Run sc n_X6_entryOf 17 [aD p0, aI x1, aI x2, aI x3] none [] h = Run sc n_X6_entryOf 20 [aD p0, aI x1, aI (x2 + nI 1), aI x3] none [] h := by
  refine (s_go mt_X6_entryOf dX6_entryOf_17 rfl).trans ?_
  exact rfl
theorem e_X6_entryOf_20 (sc : SC) (p0 : Nat) (x1 : Int32) (x2 : Int32) (x3 : Int32) (h : AH) : Run sc n_X6_entryOf 20 [aD p0, aI x1, aI x2, aI x3] none [] h = Run sc n_X6_entryOf 4 [aD p0, aI x1, aI x2, aI (x3 + nI 1)] none [] h := by
  refine (s_go mt_X6_entryOf dX6_entryOf_20 rfl).trans ?_
  refine (s_go mt_X6_entryOf dX6_entryOf_23 rfl).trans ?_
  exact rfl
theorem e_X6_entryOf_26 (sc : SC) (p0 : Nat) (x1 : Int32) (x2 : Int32) (x3 : Int32) (h : AH) : Run sc n_X6_entryOf 26 [aD p0, aI x1, aI x2, aI x3] none [] h = some (.inl (some (aI x2)), h) := by
  refine (s_go mt_X6_entryOf dX6_entryOf_26 rfl).trans ?_
  exact q_ret (c := (some (aI x2), h)) mt_X6_entryOf dX6_entryOf_27 rfl
theorem e_X6_entryOf_14 (sc : SC) (p0 : Nat) (x1 : Int32) (x2 : Int32) (x3 : Int32) (y0 : Int32) (h : AH) : Run sc n_X6_entryOf 14 [aD p0, aI x1, aI x2, aI x3] none [aI y0] h = Run sc n_X6_entryOf (if y0 = 0 then 20 else 17) [aD p0, aI x1, aI x2, aI x3] none [] h := by
  exact q_if mt_X6_entryOf dX6_entryOf_14 (fun _ _ _ _ => rfl) rfl
/-! BranchSlotFiller$Program.expandFrom(LBranchSlotFiller$Program;)V -/
theorem e_X6_expandFrom_0 (sc : SC) (p0 : Nat) (p1 : Nat) (v2 : AV) (v3 : AV) (h : AH) : Run sc n_X6_expandFrom 0 [aD p0, aD p1, v2, v3] none [] h = bO (putF h p0 8 1 0 (aI (nI 0))) (fun z => Run sc n_X6_expandFrom 5 [aD p0, aD p1, v2, v3] none [] z) := by
  refine (s_go mt_X6_expandFrom dX6_expandFrom_0 rfl).trans ?_
  refine (s_go mt_X6_expandFrom dX6_expandFrom_1 rfl).trans ?_
  exact q_putfield mt_X6_expandFrom dX6_expandFrom_2 rfl rfl rfl rfl
theorem e_X6_expandFrom_7 (sc : SC) (p0 : Nat) (p1 : Nat) (x2 : Int32) (v3 : AV) (h : AH) : Run sc n_X6_expandFrom 7 [aD p0, aD p1, aI x2, v3] none [] h = bF (getF sc h (aD p1) 8 1) (fun z => Run sc n_X6_expandFrom 12 [aD p0, aD p1, aI x2, v3] none [z, aI x2] h) := by
  refine (s_go mt_X6_expandFrom dX6_expandFrom_7 rfl).trans ?_
  refine (s_go mt_X6_expandFrom dX6_expandFrom_8 rfl).trans ?_
  exact q_getfield mt_X6_expandFrom dX6_expandFrom_9 rfl
theorem e_X6_expandFrom_15 (sc : SC) (p0 : Nat) (p1 : Nat) (x2 : Int32) (v3 : AV) (h : AH) : Run sc n_X6_expandFrom 15 [aD p0, aD p1, aI x2, v3] none [] h = bI (rOK sc h (aD p1) 8 = true) (bC (Call sc n_X6_part [aD p1, aI x2, aI (nI 0)] h) (fun v z => Run sc n_X6_expandFrom 22 [aD p0, aD p1, aI x2, v3] none (v.toList ++ [aD p0]) z) (fun E z => some (.inr E, z))) := by
  refine (s_go mt_X6_expandFrom dX6_expandFrom_15 rfl).trans ?_
  refine (s_go mt_X6_expandFrom dX6_expandFrom_16 rfl).trans ?_
  refine (s_go mt_X6_expandFrom dX6_expandFrom_17 rfl).trans ?_
  refine (s_go mt_X6_expandFrom dX6_expandFrom_18 rfl).trans ?_
  exact q_cV mt_X6_expandFrom dX6_expandFrom_19 rfl mt_X6_part rfl rfl rfl
theorem e_X6_expandFrom_70 (sc : SC) (p0 : Nat) (p1 : Nat) (x2 : Int32) (x3 : Int32) (h : AH) : Run sc n_X6_expandFrom 70 [aD p0, aD p1, aI x2, aI x3] none [] h = bI (rOK sc h (aD p1) 8 = true) (bC (Call sc n_X6_target [aD p1, aI x2] h) (fun v z => Run sc n_X6_expandFrom 79 [aD p0, aD p1, aI x2, aI x3] none (v.toList ++ [aD p1, aI (nI 3), aI x3, aD p0]) z) (fun E z => some (.inr E, z))) := by
  refine (s_go mt_X6_expandFrom dX6_expandFrom_70 rfl).trans ?_
  refine (s_go mt_X6_expandFrom dX6_expandFrom_71 rfl).trans ?_
  refine (s_go mt_X6_expandFrom dX6_expandFrom_72 rfl).trans ?_
  refine (s_go mt_X6_expandFrom dX6_expandFrom_73 rfl).trans ?_
  refine (s_go mt_X6_expandFrom dX6_expandFrom_74 rfl).trans ?_
  refine (s_go mt_X6_expandFrom dX6_expandFrom_75 rfl).trans ?_
  exact q_cV mt_X6_expandFrom dX6_expandFrom_76 rfl mt_X6_target rfl rfl rfl
theorem e_X6_expandFrom_91 (sc : SC) (p0 : Nat) (p1 : Nat) (x2 : Int32) (x3 : Int32) (h : AH) : Run sc n_X6_expandFrom 91 [aD p0, aD p1, aI x2, aI x3] none [] h = Run sc n_X6_expandFrom 7 [aD p0, aD p1, aI (x2 + nI 1), aI x3] none [] h := by
  refine (s_go mt_X6_expandFrom dX6_expandFrom_91 rfl).trans ?_
  refine (s_go mt_X6_expandFrom dX6_expandFrom_94 rfl).trans ?_
  exact rfl
theorem e_X6_expandFrom_97 (sc : SC) (p0 : Nat) (p1 : Nat) (x2 : Int32) (v3 : AV) (h : AH) : Run sc n_X6_expandFrom 97 [aD p0, aD p1, aI x2, v3] none [] h = some (.inl none, h) := by
  exact q_ret (c := (none, h)) mt_X6_expandFrom dX6_expandFrom_97 rfl
theorem e_X6_expandFrom_5 (sc : SC) (p0 : Nat) (p1 : Nat) (v2 : AV) (v3 : AV) (h : AH) : Run sc n_X6_expandFrom 5 [aD p0, aD p1, v2, v3] none [] h = Run sc n_X6_expandFrom 7 [aD p0, aD p1, aI (nI 0), v3] none [] h := by
  refine (s_go mt_X6_expandFrom dX6_expandFrom_5 rfl).trans ?_
  refine (s_go mt_X6_expandFrom dX6_expandFrom_6 rfl).trans ?_
  exact rfl
theorem e_X6_expandFrom_12 (sc : SC) (p0 : Nat) (p1 : Nat) (x2 : Int32) (v3 : AV) (y0 : Int32) (y1 : Int32) (h : AH) : Run sc n_X6_expandFrom 12 [aD p0, aD p1, aI x2, v3] none [aI y1, aI y0] h = Run sc n_X6_expandFrom (if y1 ≤ y0 then 97 else 15) [aD p0, aD p1, aI x2, v3] none [] h := by
  exact q_icmp mt_X6_expandFrom dX6_expandFrom_12 (fun _ _ _ _ => rfl) rfl
theorem e_X6_expandFrom_22 (sc : SC) (p0 : Nat) (p1 : Nat) (x2 : Int32) (v3 : AV) (q0 : Nat) (y1 : Int32) (h : AH) : Run sc n_X6_expandFrom 22 [aD p0, aD p1, aI x2, v3] none [aI y1, aD q0] h = bI (rOK sc h (aD q0) 8 = true) (bC (Call sc n_X6_appendKind [aD q0, aI y1] h) (fun v z => Run sc n_X6_expandFrom 25 [aD p0, aD p1, aI x2, v3] none (v.toList ++ []) z) (fun E z => some (.inr E, z))) := by
  exact q_cV mt_X6_expandFrom dX6_expandFrom_22 rfl mt_X6_appendKind rfl rfl rfl
theorem e_X6_expandFrom_79 (sc : SC) (p0 : Nat) (p1 : Nat) (x2 : Int32) (x3 : Int32) (q0 : Nat) (y1 : Int32) (y2 : Int32) (q3 : Nat) (y4 : Int32) (h : AH) : Run sc n_X6_expandFrom 79 [aD p0, aD p1, aI x2, aI x3] none [aI y4, aD q3, aI y2, aI y1, aD q0] h = bI (rOK sc h (aD q3) 8 = true) (bC (Call sc n_X6_entryOf [aD q3, aI y4] h) (fun v z => Run sc n_X6_expandFrom 82 [aD p0, aD p1, aI x2, aI x3] none (v.toList ++ [aI y2, aI y1, aD q0]) z) (fun E z => some (.inr E, z))) := by
  exact q_cV mt_X6_expandFrom dX6_expandFrom_79 rfl mt_X6_entryOf rfl rfl rfl
theorem e_X6_expandFrom_25 (sc : SC) (p0 : Nat) (p1 : Nat) (x2 : Int32) (v3 : AV) (y0 : Int32) (h : AH) : Run sc n_X6_expandFrom 25 [aD p0, aD p1, aI x2, v3] none [aI y0] h = bI (rOK sc h (aD p1) 8 = true) (bC (Call sc n_X6_part [aD p1, aI x2, aI (nI 1)] h) (fun v z => Run sc n_X6_expandFrom 35 [aD p0, aD p1, aI x2, aI y0] none (v.toList ++ [aI (nI 1), aI y0, aD p0]) z) (fun E z => some (.inr E, z))) := by
  refine (s_go mt_X6_expandFrom dX6_expandFrom_25 rfl).trans ?_
  refine (s_go mt_X6_expandFrom dX6_expandFrom_26 rfl).trans ?_
  refine (s_go mt_X6_expandFrom dX6_expandFrom_27 rfl).trans ?_
  refine (s_go mt_X6_expandFrom dX6_expandFrom_28 rfl).trans ?_
  refine (s_go mt_X6_expandFrom dX6_expandFrom_29 rfl).trans ?_
  refine (s_go mt_X6_expandFrom dX6_expandFrom_30 rfl).trans ?_
  refine (s_go mt_X6_expandFrom dX6_expandFrom_31 rfl).trans ?_
  exact q_cV mt_X6_expandFrom dX6_expandFrom_32 rfl mt_X6_part rfl rfl rfl
theorem e_X6_expandFrom_82 (sc : SC) (p0 : Nat) (p1 : Nat) (x2 : Int32) (x3 : Int32) (q0 : Nat) (y1 : Int32) (y2 : Int32) (y3 : Int32) (h : AH) : Run sc n_X6_expandFrom 82 [aD p0, aD p1, aI x2, aI x3] none [aI y3, aI y2, aI y1, aD q0] h = bI (rOK sc h (aD q0) 8 = true) (bC (Call sc n_X6_put [aD q0, aI y1, aI y2, aI y3] h) (fun v z => Run sc n_X6_expandFrom 85 [aD p0, aD p1, aI x2, aI x3] none (v.toList ++ []) z) (fun E z => some (.inr E, z))) := by
  exact q_cV mt_X6_expandFrom dX6_expandFrom_82 rfl mt_X6_put rfl rfl rfl
theorem e_X6_expandFrom_35 (sc : SC) (p0 : Nat) (p1 : Nat) (x2 : Int32) (x3 : Int32) (q0 : Nat) (y1 : Int32) (y2 : Int32) (y3 : Int32) (h : AH) : Run sc n_X6_expandFrom 35 [aD p0, aD p1, aI x2, aI x3] none [aI y3, aI y2, aI y1, aD q0] h = bI (rOK sc h (aD q0) 8 = true) (bC (Call sc n_X6_put [aD q0, aI y1, aI y2, aI y3] h) (fun v z => Run sc n_X6_expandFrom 38 [aD p0, aD p1, aI x2, aI x3] none (v.toList ++ []) z) (fun E z => some (.inr E, z))) := by
  exact q_cV mt_X6_expandFrom dX6_expandFrom_35 rfl mt_X6_put rfl rfl rfl
theorem e_X6_expandFrom_85 (sc : SC) (p0 : Nat) (p1 : Nat) (x2 : Int32) (x3 : Int32) (h : AH) : Run sc n_X6_expandFrom 85 [aD p0, aD p1, aI x2, aI x3] none [] h = bI (rOK sc h (aD p0) 8 = true) (bC (Call sc n_X6_appendKind [aD p0, aI (nI 0)] h) (fun v z => Run sc n_X6_expandFrom 90 [aD p0, aD p1, aI x2, aI x3] none (v.toList ++ []) z) (fun E z => some (.inr E, z))) := by
  refine (s_go mt_X6_expandFrom dX6_expandFrom_85 rfl).trans ?_
  refine (s_go mt_X6_expandFrom dX6_expandFrom_86 rfl).trans ?_
  exact q_cV mt_X6_expandFrom dX6_expandFrom_87 rfl mt_X6_appendKind rfl rfl rfl
theorem e_X6_expandFrom_38 (sc : SC) (p0 : Nat) (p1 : Nat) (x2 : Int32) (x3 : Int32) (h : AH) : Run sc n_X6_expandFrom 38 [aD p0, aD p1, aI x2, aI x3] none [] h = bI (rOK sc h (aD p1) 8 = true) (bC (Call sc n_X6_part [aD p1, aI x2, aI (nI 2)] h) (fun v z => Run sc n_X6_expandFrom 47 [aD p0, aD p1, aI x2, aI x3] none (v.toList ++ [aI (nI 2), aI x3, aD p0]) z) (fun E z => some (.inr E, z))) := by
  refine (s_go mt_X6_expandFrom dX6_expandFrom_38 rfl).trans ?_
  refine (s_go mt_X6_expandFrom dX6_expandFrom_39 rfl).trans ?_
  refine (s_go mt_X6_expandFrom dX6_expandFrom_40 rfl).trans ?_
  refine (s_go mt_X6_expandFrom dX6_expandFrom_41 rfl).trans ?_
  refine (s_go mt_X6_expandFrom dX6_expandFrom_42 rfl).trans ?_
  refine (s_go mt_X6_expandFrom dX6_expandFrom_43 rfl).trans ?_
  exact q_cV mt_X6_expandFrom dX6_expandFrom_44 rfl mt_X6_part rfl rfl rfl
theorem e_X6_expandFrom_90 (sc : SC) (p0 : Nat) (p1 : Nat) (x2 : Int32) (x3 : Int32) (y0 : Int32) (h : AH) : Run sc n_X6_expandFrom 90 [aD p0, aD p1, aI x2, aI x3] none [aI y0] h = Run sc n_X6_expandFrom 91 [aD p0, aD p1, aI x2, aI x3] none [] h := by
  refine (s_go mt_X6_expandFrom dX6_expandFrom_90 rfl).trans ?_
  exact rfl
theorem e_X6_expandFrom_47 (sc : SC) (p0 : Nat) (p1 : Nat) (x2 : Int32) (x3 : Int32) (q0 : Nat) (y1 : Int32) (y2 : Int32) (y3 : Int32) (h : AH) : Run sc n_X6_expandFrom 47 [aD p0, aD p1, aI x2, aI x3] none [aI y3, aI y2, aI y1, aD q0] h = bI (rOK sc h (aD q0) 8 = true) (bC (Call sc n_X6_put [aD q0, aI y1, aI y2, aI y3] h) (fun v z => Run sc n_X6_expandFrom 50 [aD p0, aD p1, aI x2, aI x3] none (v.toList ++ []) z) (fun E z => some (.inr E, z))) := by
  exact q_cV mt_X6_expandFrom dX6_expandFrom_47 rfl mt_X6_put rfl rfl rfl
theorem e_X6_expandFrom_50 (sc : SC) (p0 : Nat) (p1 : Nat) (x2 : Int32) (x3 : Int32) (h : AH) : Run sc n_X6_expandFrom 50 [aD p0, aD p1, aI x2, aI x3] none [] h = bI (rOK sc h (aD p1) 8 = true) (bC (Call sc n_X6_part [aD p1, aI x2, aI (nI 3)] h) (fun v z => Run sc n_X6_expandFrom 59 [aD p0, aD p1, aI x2, aI x3] none (v.toList ++ [aI (nI 3), aI x3, aD p0]) z) (fun E z => some (.inr E, z))) := by
  refine (s_go mt_X6_expandFrom dX6_expandFrom_50 rfl).trans ?_
  refine (s_go mt_X6_expandFrom dX6_expandFrom_51 rfl).trans ?_
  refine (s_go mt_X6_expandFrom dX6_expandFrom_52 rfl).trans ?_
  refine (s_go mt_X6_expandFrom dX6_expandFrom_53 rfl).trans ?_
  refine (s_go mt_X6_expandFrom dX6_expandFrom_54 rfl).trans ?_
  refine (s_go mt_X6_expandFrom dX6_expandFrom_55 rfl).trans ?_
  exact q_cV mt_X6_expandFrom dX6_expandFrom_56 rfl mt_X6_part rfl rfl rfl
theorem e_X6_expandFrom_59 (sc : SC) (p0 : Nat) (p1 : Nat) (x2 : Int32) (x3 : Int32) (q0 : Nat) (y1 : Int32) (y2 : Int32) (y3 : Int32) (h : AH) : Run sc n_X6_expandFrom 59 [aD p0, aD p1, aI x2, aI x3] none [aI y3, aI y2, aI y1, aD q0] h = bI (rOK sc h (aD q0) 8 = true) (bC (Call sc n_X6_put [aD q0, aI y1, aI y2, aI y3] h) (fun v z => Run sc n_X6_expandFrom 62 [aD p0, aD p1, aI x2, aI x3] none (v.toList ++ []) z) (fun E z => some (.inr E, z))) := by
  exact q_cV mt_X6_expandFrom dX6_expandFrom_59 rfl mt_X6_put rfl rfl rfl
theorem e_X6_expandFrom_62 (sc : SC) (p0 : Nat) (p1 : Nat) (x2 : Int32) (x3 : Int32) (h : AH) : Run sc n_X6_expandFrom 62 [aD p0, aD p1, aI x2, aI x3] none [] h = bI (rOK sc h (aD p1) 8 = true) (bC (Call sc n_X6_isBranch [aD p1, aI x2] h) (fun v z => Run sc n_X6_expandFrom 67 [aD p0, aD p1, aI x2, aI x3] none (v.toList ++ []) z) (fun E z => some (.inr E, z))) := by
  refine (s_go mt_X6_expandFrom dX6_expandFrom_62 rfl).trans ?_
  refine (s_go mt_X6_expandFrom dX6_expandFrom_63 rfl).trans ?_
  exact q_cV mt_X6_expandFrom dX6_expandFrom_64 rfl mt_X6_isBranch rfl rfl rfl
theorem e_X6_expandFrom_67 (sc : SC) (p0 : Nat) (p1 : Nat) (x2 : Int32) (x3 : Int32) (y0 : Int32) (h : AH) : Run sc n_X6_expandFrom 67 [aD p0, aD p1, aI x2, aI x3] none [aI y0] h = Run sc n_X6_expandFrom (if y0 = 0 then 91 else 70) [aD p0, aD p1, aI x2, aI x3] none [] h := by
  exact q_if mt_X6_expandFrom dX6_expandFrom_67 (fun _ _ _ _ => rfl) rfl
/-! BranchSlotFiller$Program.isSlot(I)Z -/
theorem e_X6_isSlot_0 (sc : SC) (p0 : Nat) (x1 : Int32) (h : AH) : Run sc n_X6_isSlot 0 [aD p0, aI x1] none [] h = Run sc n_X6_isSlot (if x1 ≤ 0 then 18 else 4) [aD p0, aI x1] none [] h := by
  refine (s_go mt_X6_isSlot dX6_isSlot_0 rfl).trans ?_
  exact q_if mt_X6_isSlot dX6_isSlot_1 (fun _ _ _ _ => rfl) rfl
theorem e_X6_isSlot_4 (sc : SC) (p0 : Nat) (x1 : Int32) (h : AH) : Run sc n_X6_isSlot 4 [aD p0, aI x1] none [] h = bI (rOK sc h (aD p0) 8 = true) (bC (Call sc n_X6_isBranch [aD p0, aI (x1 - (nI 1))] h) (fun v z => Run sc n_X6_isSlot 11 [aD p0, aI x1] none (v.toList ++ []) z) (fun E z => some (.inr E, z))) := by
  refine (s_go mt_X6_isSlot dX6_isSlot_4 rfl).trans ?_
  refine (s_go mt_X6_isSlot dX6_isSlot_5 rfl).trans ?_
  refine (s_go mt_X6_isSlot dX6_isSlot_6 rfl).trans ?_
  refine (s_go mt_X6_isSlot dX6_isSlot_7 rfl).trans ?_
  exact q_cV mt_X6_isSlot dX6_isSlot_8 rfl mt_X6_isBranch rfl rfl rfl
theorem e_X6_isSlot_14 (sc : SC) (p0 : Nat) (x1 : Int32) (h : AH) : Run sc n_X6_isSlot 14 [aD p0, aI x1] none [] h = Run sc n_X6_isSlot 19 [aD p0, aI x1] none [aI (nI 1)] h := by
  refine (s_go mt_X6_isSlot dX6_isSlot_14 rfl).trans ?_
  refine (s_go mt_X6_isSlot dX6_isSlot_15 rfl).trans ?_
  exact rfl
theorem e_X6_isSlot_18 (sc : SC) (p0 : Nat) (x1 : Int32) (h : AH) : Run sc n_X6_isSlot 18 [aD p0, aI x1] none [] h = Run sc n_X6_isSlot 19 [aD p0, aI x1] none [aI (nI 0)] h := by
  refine (s_go mt_X6_isSlot dX6_isSlot_18 rfl).trans ?_
  exact rfl
theorem e_X6_isSlot_19 (sc : SC) (p0 : Nat) (x1 : Int32) (y0 : Int32) (h : AH) : Run sc n_X6_isSlot 19 [aD p0, aI x1] none [aI y0] h = bI (retK (some FieldType.boolean) y0 = true) (some (.inl (some (aI y0)), h)) := by
  exact q_iret mt_X6_isSlot dX6_isSlot_19
theorem e_X6_isSlot_11 (sc : SC) (p0 : Nat) (x1 : Int32) (y0 : Int32) (h : AH) : Run sc n_X6_isSlot 11 [aD p0, aI x1] none [aI y0] h = Run sc n_X6_isSlot (if y0 = 0 then 18 else 14) [aD p0, aI x1] none [] h := by
  exact q_if mt_X6_isSlot dX6_isSlot_11 (fun _ _ _ _ => rfl) rfl
/-! BranchSlotFiller$Program.branchesTo(I)I -/
theorem e_X6_branchesTo_0 (sc : SC) (p0 : Nat) (x1 : Int32) (v2 : AV) (v3 : AV) (h : AH) : Run sc n_X6_branchesTo 0 [aD p0, aI x1, v2, v3] none [] h = Run sc n_X6_branchesTo 4 [aD p0, aI x1, aI (nI 0), aI (nI 0)] none [] h := by
  refine (s_go mt_X6_branchesTo dX6_branchesTo_0 rfl).trans ?_
  refine (s_go mt_X6_branchesTo dX6_branchesTo_1 rfl).trans ?_
  refine (s_go mt_X6_branchesTo dX6_branchesTo_2 rfl).trans ?_
  refine (s_go mt_X6_branchesTo dX6_branchesTo_3 rfl).trans ?_
  exact rfl
theorem e_X6_branchesTo_4 (sc : SC) (p0 : Nat) (x1 : Int32) (x2 : Int32) (x3 : Int32) (h : AH) : Run sc n_X6_branchesTo 4 [aD p0, aI x1, aI x2, aI x3] none [] h = bF (getF sc h (aD p0) 8 1) (fun z => Run sc n_X6_branchesTo 9 [aD p0, aI x1, aI x2, aI x3] none [z, aI x3] h) := by
  refine (s_go mt_X6_branchesTo dX6_branchesTo_4 rfl).trans ?_
  refine (s_go mt_X6_branchesTo dX6_branchesTo_5 rfl).trans ?_
  exact q_getfield mt_X6_branchesTo dX6_branchesTo_6 rfl
theorem e_X6_branchesTo_12 (sc : SC) (p0 : Nat) (x1 : Int32) (x2 : Int32) (x3 : Int32) (h : AH) : Run sc n_X6_branchesTo 12 [aD p0, aI x1, aI x2, aI x3] none [] h = bI (rOK sc h (aD p0) 8 = true) (bC (Call sc n_X6_isBranch [aD p0, aI x3] h) (fun v z => Run sc n_X6_branchesTo 17 [aD p0, aI x1, aI x2, aI x3] none (v.toList ++ []) z) (fun E z => some (.inr E, z))) := by
  refine (s_go mt_X6_branchesTo dX6_branchesTo_12 rfl).trans ?_
  refine (s_go mt_X6_branchesTo dX6_branchesTo_13 rfl).trans ?_
  exact q_cV mt_X6_branchesTo dX6_branchesTo_14 rfl mt_X6_isBranch rfl rfl rfl
theorem e_X6_branchesTo_20 (sc : SC) (p0 : Nat) (x1 : Int32) (x2 : Int32) (x3 : Int32) (h : AH) : Run sc n_X6_branchesTo 20 [aD p0, aI x1, aI x2, aI x3] none [] h = bI (rOK sc h (aD p0) 8 = true) (bC (Call sc n_X6_target [aD p0, aI x3] h) (fun v z => Run sc n_X6_branchesTo 25 [aD p0, aI x1, aI x2, aI x3] none (v.toList ++ []) z) (fun E z => some (.inr E, z))) := by
  refine (s_go mt_X6_branchesTo dX6_branchesTo_20 rfl).trans ?_
  refine (s_go mt_X6_branchesTo dX6_branchesTo_21 rfl).trans ?_
  exact q_cV mt_X6_branchesTo dX6_branchesTo_22 rfl mt_X6_target rfl rfl rfl
theorem e_X6_branchesTo_29 (sc : SC) (p0 : Nat) (x1 : Int32) (x2 : Int32) (x3 : Int32) (h : AH) : Run sc n_X6_branchesTo 29 [aD p0, aI x1, aI x2, aI x3] none [] h = Run sc n_X6_branchesTo 32 [aD p0, aI x1, aI (x2 + nI 1), aI x3] none [] h := by
  refine (s_go mt_X6_branchesTo dX6_branchesTo_29 rfl).trans ?_
  exact rfl
theorem e_X6_branchesTo_32 (sc : SC) (p0 : Nat) (x1 : Int32) (x2 : Int32) (x3 : Int32) (h : AH) : Run sc n_X6_branchesTo 32 [aD p0, aI x1, aI x2, aI x3] none [] h = Run sc n_X6_branchesTo 4 [aD p0, aI x1, aI x2, aI (x3 + nI 1)] none [] h := by
  refine (s_go mt_X6_branchesTo dX6_branchesTo_32 rfl).trans ?_
  refine (s_go mt_X6_branchesTo dX6_branchesTo_35 rfl).trans ?_
  exact rfl
theorem e_X6_branchesTo_38 (sc : SC) (p0 : Nat) (x1 : Int32) (x2 : Int32) (x3 : Int32) (h : AH) : Run sc n_X6_branchesTo 38 [aD p0, aI x1, aI x2, aI x3] none [] h = some (.inl (some (aI x2)), h) := by
  refine (s_go mt_X6_branchesTo dX6_branchesTo_38 rfl).trans ?_
  exact q_ret (c := (some (aI x2), h)) mt_X6_branchesTo dX6_branchesTo_39 rfl
theorem e_X6_branchesTo_9 (sc : SC) (p0 : Nat) (x1 : Int32) (x2 : Int32) (x3 : Int32) (y0 : Int32) (y1 : Int32) (h : AH) : Run sc n_X6_branchesTo 9 [aD p0, aI x1, aI x2, aI x3] none [aI y1, aI y0] h = Run sc n_X6_branchesTo (if y1 ≤ y0 then 38 else 12) [aD p0, aI x1, aI x2, aI x3] none [] h := by
  exact q_icmp mt_X6_branchesTo dX6_branchesTo_9 (fun _ _ _ _ => rfl) rfl
theorem e_X6_branchesTo_17 (sc : SC) (p0 : Nat) (x1 : Int32) (x2 : Int32) (x3 : Int32) (y0 : Int32) (h : AH) : Run sc n_X6_branchesTo 17 [aD p0, aI x1, aI x2, aI x3] none [aI y0] h = Run sc n_X6_branchesTo (if y0 = 0 then 32 else 20) [aD p0, aI x1, aI x2, aI x3] none [] h := by
  exact q_if mt_X6_branchesTo dX6_branchesTo_17 (fun _ _ _ _ => rfl) rfl
theorem e_X6_branchesTo_25 (sc : SC) (p0 : Nat) (x1 : Int32) (x2 : Int32) (x3 : Int32) (y0 : Int32) (h : AH) : Run sc n_X6_branchesTo 25 [aD p0, aI x1, aI x2, aI x3] none [aI y0] h = Run sc n_X6_branchesTo (if ¬ y0 = x1 then 32 else 29) [aD p0, aI x1, aI x2, aI x3] none [] h := by
  refine (s_go mt_X6_branchesTo dX6_branchesTo_25 rfl).trans ?_
  exact q_icmp mt_X6_branchesTo dX6_branchesTo_26 (fun _ _ _ _ => rfl) rfl
/-! BranchSlotFiller$Program.branches()I -/
theorem e_X6_branches_0 (sc : SC) (p0 : Nat) (v1 : AV) (v2 : AV) (h : AH) : Run sc n_X6_branches 0 [aD p0, v1, v2] none [] h = Run sc n_X6_branches 4 [aD p0, aI (nI 0), aI (nI 0)] none [] h := by
  refine (s_go mt_X6_branches dX6_branches_0 rfl).trans ?_
  refine (s_go mt_X6_branches dX6_branches_1 rfl).trans ?_
  refine (s_go mt_X6_branches dX6_branches_2 rfl).trans ?_
  refine (s_go mt_X6_branches dX6_branches_3 rfl).trans ?_
  exact rfl
theorem e_X6_branches_4 (sc : SC) (p0 : Nat) (x1 : Int32) (x2 : Int32) (h : AH) : Run sc n_X6_branches 4 [aD p0, aI x1, aI x2] none [] h = bF (getF sc h (aD p0) 8 1) (fun z => Run sc n_X6_branches 9 [aD p0, aI x1, aI x2] none [z, aI x2] h) := by
  refine (s_go mt_X6_branches dX6_branches_4 rfl).trans ?_
  refine (s_go mt_X6_branches dX6_branches_5 rfl).trans ?_
  exact q_getfield mt_X6_branches dX6_branches_6 rfl
theorem e_X6_branches_12 (sc : SC) (p0 : Nat) (x1 : Int32) (x2 : Int32) (h : AH) : Run sc n_X6_branches 12 [aD p0, aI x1, aI x2] none [] h = bI (rOK sc h (aD p0) 8 = true) (bC (Call sc n_X6_isBranch [aD p0, aI x2] h) (fun v z => Run sc n_X6_branches 17 [aD p0, aI x1, aI x2] none (v.toList ++ []) z) (fun E z => some (.inr E, z))) := by
  refine (s_go mt_X6_branches dX6_branches_12 rfl).trans ?_
  refine (s_go mt_X6_branches dX6_branches_13 rfl).trans ?_
  exact q_cV mt_X6_branches dX6_branches_14 rfl mt_X6_isBranch rfl rfl rfl
theorem e_X6_branches_20 (sc : SC) (p0 : Nat) (x1 : Int32) (x2 : Int32) (h : AH) : Run sc n_X6_branches 20 [aD p0, aI x1, aI x2] none [] h = Run sc n_X6_branches 23 [aD p0, aI (x1 + nI 1), aI x2] none [] h := by
  refine (s_go mt_X6_branches dX6_branches_20 rfl).trans ?_
  exact rfl
theorem e_X6_branches_23 (sc : SC) (p0 : Nat) (x1 : Int32) (x2 : Int32) (h : AH) : Run sc n_X6_branches 23 [aD p0, aI x1, aI x2] none [] h = Run sc n_X6_branches 4 [aD p0, aI x1, aI (x2 + nI 1)] none [] h := by
  refine (s_go mt_X6_branches dX6_branches_23 rfl).trans ?_
  refine (s_go mt_X6_branches dX6_branches_26 rfl).trans ?_
  exact rfl
theorem e_X6_branches_29 (sc : SC) (p0 : Nat) (x1 : Int32) (x2 : Int32) (h : AH) : Run sc n_X6_branches 29 [aD p0, aI x1, aI x2] none [] h = some (.inl (some (aI x1)), h) := by
  refine (s_go mt_X6_branches dX6_branches_29 rfl).trans ?_
  exact q_ret (c := (some (aI x1), h)) mt_X6_branches dX6_branches_30 rfl
theorem e_X6_branches_9 (sc : SC) (p0 : Nat) (x1 : Int32) (x2 : Int32) (y0 : Int32) (y1 : Int32) (h : AH) : Run sc n_X6_branches 9 [aD p0, aI x1, aI x2] none [aI y1, aI y0] h = Run sc n_X6_branches (if y1 ≤ y0 then 29 else 12) [aD p0, aI x1, aI x2] none [] h := by
  exact q_icmp mt_X6_branches dX6_branches_9 (fun _ _ _ _ => rfl) rfl
theorem e_X6_branches_17 (sc : SC) (p0 : Nat) (x1 : Int32) (x2 : Int32) (y0 : Int32) (h : AH) : Run sc n_X6_branches 17 [aD p0, aI x1, aI x2] none [aI y0] h = Run sc n_X6_branches (if y0 = 0 then 23 else 20) [aD p0, aI x1, aI x2] none [] h := by
  exact q_if mt_X6_branches dX6_branches_17 (fun _ _ _ _ => rfl) rfl
/-! BranchSlotFiller$Program.hasEmptySlot(I)Z -/
theorem e_X6_hasEmptySlot_0 (sc : SC) (p0 : Nat) (x1 : Int32) (h : AH) : Run sc n_X6_hasEmptySlot 0 [aD p0, aI x1] none [] h = bI (rOK sc h (aD p0) 8 = true) (bC (Call sc n_X6_isBranch [aD p0, aI x1] h) (fun v z => Run sc n_X6_hasEmptySlot 5 [aD p0, aI x1] none (v.toList ++ []) z) (fun E z => some (.inr E, z))) := by
  refine (s_go mt_X6_hasEmptySlot dX6_hasEmptySlot_0 rfl).trans ?_
  refine (s_go mt_X6_hasEmptySlot dX6_hasEmptySlot_1 rfl).trans ?_
  exact q_cV mt_X6_hasEmptySlot dX6_hasEmptySlot_2 rfl mt_X6_isBranch rfl rfl rfl
theorem e_X6_hasEmptySlot_8 (sc : SC) (p0 : Nat) (x1 : Int32) (h : AH) : Run sc n_X6_hasEmptySlot 8 [aD p0, aI x1] none [] h = bI (rOK sc h (aD p0) 8 = true) (bC (Call sc n_X6_kind [aD p0, aI (x1 + (nI 1))] h) (fun v z => Run sc n_X6_hasEmptySlot 15 [aD p0, aI x1] none (v.toList ++ []) z) (fun E z => some (.inr E, z))) := by
  refine (s_go mt_X6_hasEmptySlot dX6_hasEmptySlot_8 rfl).trans ?_
  refine (s_go mt_X6_hasEmptySlot dX6_hasEmptySlot_9 rfl).trans ?_
  refine (s_go mt_X6_hasEmptySlot dX6_hasEmptySlot_10 rfl).trans ?_
  refine (s_go mt_X6_hasEmptySlot dX6_hasEmptySlot_11 rfl).trans ?_
  exact q_cV mt_X6_hasEmptySlot dX6_hasEmptySlot_12 rfl mt_X6_kind rfl rfl rfl
theorem e_X6_hasEmptySlot_21 (sc : SC) (p0 : Nat) (x1 : Int32) (h : AH) : Run sc n_X6_hasEmptySlot 21 [aD p0, aI x1] none [] h = Run sc n_X6_hasEmptySlot 26 [aD p0, aI x1] none [aI (nI 1)] h := by
  refine (s_go mt_X6_hasEmptySlot dX6_hasEmptySlot_21 rfl).trans ?_
  refine (s_go mt_X6_hasEmptySlot dX6_hasEmptySlot_22 rfl).trans ?_
  exact rfl
theorem e_X6_hasEmptySlot_25 (sc : SC) (p0 : Nat) (x1 : Int32) (h : AH) : Run sc n_X6_hasEmptySlot 25 [aD p0, aI x1] none [] h = Run sc n_X6_hasEmptySlot 26 [aD p0, aI x1] none [aI (nI 0)] h := by
  refine (s_go mt_X6_hasEmptySlot dX6_hasEmptySlot_25 rfl).trans ?_
  exact rfl
theorem e_X6_hasEmptySlot_26 (sc : SC) (p0 : Nat) (x1 : Int32) (y0 : Int32) (h : AH) : Run sc n_X6_hasEmptySlot 26 [aD p0, aI x1] none [aI y0] h = bI (retK (some FieldType.boolean) y0 = true) (some (.inl (some (aI y0)), h)) := by
  exact q_iret mt_X6_hasEmptySlot dX6_hasEmptySlot_26
theorem e_X6_hasEmptySlot_5 (sc : SC) (p0 : Nat) (x1 : Int32) (y0 : Int32) (h : AH) : Run sc n_X6_hasEmptySlot 5 [aD p0, aI x1] none [aI y0] h = Run sc n_X6_hasEmptySlot (if y0 = 0 then 25 else 8) [aD p0, aI x1] none [] h := by
  exact q_if mt_X6_hasEmptySlot dX6_hasEmptySlot_5 (fun _ _ _ _ => rfl) rfl
theorem e_X6_hasEmptySlot_15 (sc : SC) (p0 : Nat) (x1 : Int32) (d0 : Nat) (h : AH) : Run sc n_X6_hasEmptySlot 15 [aD p0, aI x1] none [aC d0] h = bI (1 ≤ d0 ∧ d0 < 13 ∧ 1 ≤ 1 ∧ 1 < 13) (Run sc n_X6_hasEmptySlot (if ¬ d0 = 1 then 25 else 21) [aD p0, aI x1] none [] h) := by
  refine (s_go mt_X6_hasEmptySlot dX6_hasEmptySlot_15 rfl).trans ?_
  exact q_acmpne mt_X6_hasEmptySlot dX6_hasEmptySlot_18 rfl
/-! BranchSlotFiller$Program.emptySlots()I -/
theorem e_X6_emptySlots_0 (sc : SC) (p0 : Nat) (v1 : AV) (v2 : AV) (h : AH) : Run sc n_X6_emptySlots 0 [aD p0, v1, v2] none [] h = Run sc n_X6_emptySlots 4 [aD p0, aI (nI 0), aI (nI 0)] none [] h := by
  refine (s_go mt_X6_emptySlots dX6_emptySlots_0 rfl).trans ?_
  refine (s_go mt_X6_emptySlots dX6_emptySlots_1 rfl).trans ?_
  refine (s_go mt_X6_emptySlots dX6_emptySlots_2 rfl).trans ?_
  refine (s_go mt_X6_emptySlots dX6_emptySlots_3 rfl).trans ?_
  exact rfl
theorem e_X6_emptySlots_4 (sc : SC) (p0 : Nat) (x1 : Int32) (x2 : Int32) (h : AH) : Run sc n_X6_emptySlots 4 [aD p0, aI x1, aI x2] none [] h = bF (getF sc h (aD p0) 8 1) (fun z => Run sc n_X6_emptySlots 9 [aD p0, aI x1, aI x2] none [z, aI x2] h) := by
  refine (s_go mt_X6_emptySlots dX6_emptySlots_4 rfl).trans ?_
  refine (s_go mt_X6_emptySlots dX6_emptySlots_5 rfl).trans ?_
  exact q_getfield mt_X6_emptySlots dX6_emptySlots_6 rfl
theorem e_X6_emptySlots_12 (sc : SC) (p0 : Nat) (x1 : Int32) (x2 : Int32) (h : AH) : Run sc n_X6_emptySlots 12 [aD p0, aI x1, aI x2] none [] h = bI (rOK sc h (aD p0) 8 = true) (bC (Call sc n_X6_hasEmptySlot [aD p0, aI x2] h) (fun v z => Run sc n_X6_emptySlots 17 [aD p0, aI x1, aI x2] none (v.toList ++ []) z) (fun E z => some (.inr E, z))) := by
  refine (s_go mt_X6_emptySlots dX6_emptySlots_12 rfl).trans ?_
  refine (s_go mt_X6_emptySlots dX6_emptySlots_13 rfl).trans ?_
  exact q_cV mt_X6_emptySlots dX6_emptySlots_14 rfl mt_X6_hasEmptySlot rfl rfl rfl
theorem e_X6_emptySlots_20 (sc : SC) (p0 : Nat) (x1 : Int32) (x2 : Int32) (h : AH) : Run sc n_X6_emptySlots 20 [aD p0, aI x1, aI x2] none [] h = Run sc n_X6_emptySlots 23 [aD p0, aI (x1 + nI 1), aI x2] none [] h := by
  refine (s_go mt_X6_emptySlots dX6_emptySlots_20 rfl).trans ?_
  exact rfl
theorem e_X6_emptySlots_23 (sc : SC) (p0 : Nat) (x1 : Int32) (x2 : Int32) (h : AH) : Run sc n_X6_emptySlots 23 [aD p0, aI x1, aI x2] none [] h = Run sc n_X6_emptySlots 4 [aD p0, aI x1, aI (x2 + nI 1)] none [] h := by
  refine (s_go mt_X6_emptySlots dX6_emptySlots_23 rfl).trans ?_
  refine (s_go mt_X6_emptySlots dX6_emptySlots_26 rfl).trans ?_
  exact rfl
theorem e_X6_emptySlots_29 (sc : SC) (p0 : Nat) (x1 : Int32) (x2 : Int32) (h : AH) : Run sc n_X6_emptySlots 29 [aD p0, aI x1, aI x2] none [] h = some (.inl (some (aI x1)), h) := by
  refine (s_go mt_X6_emptySlots dX6_emptySlots_29 rfl).trans ?_
  exact q_ret (c := (some (aI x1), h)) mt_X6_emptySlots dX6_emptySlots_30 rfl
theorem e_X6_emptySlots_9 (sc : SC) (p0 : Nat) (x1 : Int32) (x2 : Int32) (y0 : Int32) (y1 : Int32) (h : AH) : Run sc n_X6_emptySlots 9 [aD p0, aI x1, aI x2] none [aI y1, aI y0] h = Run sc n_X6_emptySlots (if y1 ≤ y0 then 29 else 12) [aD p0, aI x1, aI x2] none [] h := by
  exact q_icmp mt_X6_emptySlots dX6_emptySlots_9 (fun _ _ _ _ => rfl) rfl
theorem e_X6_emptySlots_17 (sc : SC) (p0 : Nat) (x1 : Int32) (x2 : Int32) (y0 : Int32) (h : AH) : Run sc n_X6_emptySlots 17 [aD p0, aI x1, aI x2] none [aI y0] h = Run sc n_X6_emptySlots (if y0 = 0 then 23 else 20) [aD p0, aI x1, aI x2] none [] h := by
  exact q_if mt_X6_emptySlots dX6_emptySlots_17 (fun _ _ _ _ => rfl) rfl
/-! BranchSlotFiller$Program.annullingBranches()I -/
theorem e_X6_annullingBranches_0 (sc : SC) (p0 : Nat) (v1 : AV) (v2 : AV) (h : AH) : Run sc n_X6_annullingBranches 0 [aD p0, v1, v2] none [] h = Run sc n_X6_annullingBranches 4 [aD p0, aI (nI 0), aI (nI 0)] none [] h := by
  refine (s_go mt_X6_annullingBranches dX6_annullingBranches_0 rfl).trans ?_
  refine (s_go mt_X6_annullingBranches dX6_annullingBranches_1 rfl).trans ?_
  refine (s_go mt_X6_annullingBranches dX6_annullingBranches_2 rfl).trans ?_
  refine (s_go mt_X6_annullingBranches dX6_annullingBranches_3 rfl).trans ?_
  exact rfl
theorem e_X6_annullingBranches_4 (sc : SC) (p0 : Nat) (x1 : Int32) (x2 : Int32) (h : AH) : Run sc n_X6_annullingBranches 4 [aD p0, aI x1, aI x2] none [] h = bF (getF sc h (aD p0) 8 1) (fun z => Run sc n_X6_annullingBranches 9 [aD p0, aI x1, aI x2] none [z, aI x2] h) := by
  refine (s_go mt_X6_annullingBranches dX6_annullingBranches_4 rfl).trans ?_
  refine (s_go mt_X6_annullingBranches dX6_annullingBranches_5 rfl).trans ?_
  exact q_getfield mt_X6_annullingBranches dX6_annullingBranches_6 rfl
theorem e_X6_annullingBranches_12 (sc : SC) (p0 : Nat) (x1 : Int32) (x2 : Int32) (h : AH) : Run sc n_X6_annullingBranches 12 [aD p0, aI x1, aI x2] none [] h = bI (rOK sc h (aD p0) 8 = true) (bC (Call sc n_X6_part [aD p0, aI x2, aI (nI 4)] h) (fun v z => Run sc n_X6_annullingBranches 19 [aD p0, aI x1, aI x2] none (v.toList ++ [aI x1]) z) (fun E z => some (.inr E, z))) := by
  refine (s_go mt_X6_annullingBranches dX6_annullingBranches_12 rfl).trans ?_
  refine (s_go mt_X6_annullingBranches dX6_annullingBranches_13 rfl).trans ?_
  refine (s_go mt_X6_annullingBranches dX6_annullingBranches_14 rfl).trans ?_
  refine (s_go mt_X6_annullingBranches dX6_annullingBranches_15 rfl).trans ?_
  exact q_cV mt_X6_annullingBranches dX6_annullingBranches_16 rfl mt_X6_part rfl rfl rfl
theorem e_X6_annullingBranches_27 (sc : SC) (p0 : Nat) (x1 : Int32) (x2 : Int32) (h : AH) : Run sc n_X6_annullingBranches 27 [aD p0, aI x1, aI x2] none [] h = some (.inl (some (aI x1)), h) := by
  refine (s_go mt_X6_annullingBranches dX6_annullingBranches_27 rfl).trans ?_
  exact q_ret (c := (some (aI x1), h)) mt_X6_annullingBranches dX6_annullingBranches_28 rfl
theorem e_X6_annullingBranches_9 (sc : SC) (p0 : Nat) (x1 : Int32) (x2 : Int32) (y0 : Int32) (y1 : Int32) (h : AH) : Run sc n_X6_annullingBranches 9 [aD p0, aI x1, aI x2] none [aI y1, aI y0] h = Run sc n_X6_annullingBranches (if y1 ≤ y0 then 27 else 12) [aD p0, aI x1, aI x2] none [] h := by
  exact q_icmp mt_X6_annullingBranches dX6_annullingBranches_9 (fun _ _ _ _ => rfl) rfl
theorem e_X6_annullingBranches_19 (sc : SC) (p0 : Nat) (x1 : Int32) (x2 : Int32) (y0 : Int32) (y1 : Int32) (h : AH) : Run sc n_X6_annullingBranches 19 [aD p0, aI x1, aI x2] none [aI y1, aI y0] h = Run sc n_X6_annullingBranches 4 [aD p0, aI (y0 + y1), aI (x2 + nI 1)] none [] h := by
  refine (s_go mt_X6_annullingBranches dX6_annullingBranches_19 rfl).trans ?_
  refine (s_go mt_X6_annullingBranches dX6_annullingBranches_20 rfl).trans ?_
  refine (s_go mt_X6_annullingBranches dX6_annullingBranches_21 rfl).trans ?_
  refine (s_go mt_X6_annullingBranches dX6_annullingBranches_24 rfl).trans ?_
  exact rfl
/-! BranchSlotFiller$Program.nops()I -/
theorem e_X6_nops_0 (sc : SC) (p0 : Nat) (v1 : AV) (v2 : AV) (h : AH) : Run sc n_X6_nops 0 [aD p0, v1, v2] none [] h = Run sc n_X6_nops 4 [aD p0, aI (nI 0), aI (nI 0)] none [] h := by
  refine (s_go mt_X6_nops dX6_nops_0 rfl).trans ?_
  refine (s_go mt_X6_nops dX6_nops_1 rfl).trans ?_
  refine (s_go mt_X6_nops dX6_nops_2 rfl).trans ?_
  refine (s_go mt_X6_nops dX6_nops_3 rfl).trans ?_
  exact rfl
theorem e_X6_nops_4 (sc : SC) (p0 : Nat) (x1 : Int32) (x2 : Int32) (h : AH) : Run sc n_X6_nops 4 [aD p0, aI x1, aI x2] none [] h = bF (getF sc h (aD p0) 8 1) (fun z => Run sc n_X6_nops 9 [aD p0, aI x1, aI x2] none [z, aI x2] h) := by
  refine (s_go mt_X6_nops dX6_nops_4 rfl).trans ?_
  refine (s_go mt_X6_nops dX6_nops_5 rfl).trans ?_
  exact q_getfield mt_X6_nops dX6_nops_6 rfl
theorem e_X6_nops_12 (sc : SC) (p0 : Nat) (x1 : Int32) (x2 : Int32) (h : AH) : Run sc n_X6_nops 12 [aD p0, aI x1, aI x2] none [] h = bI (rOK sc h (aD p0) 8 = true) (bC (Call sc n_X6_kind [aD p0, aI x2] h) (fun v z => Run sc n_X6_nops 17 [aD p0, aI x1, aI x2] none (v.toList ++ []) z) (fun E z => some (.inr E, z))) := by
  refine (s_go mt_X6_nops dX6_nops_12 rfl).trans ?_
  refine (s_go mt_X6_nops dX6_nops_13 rfl).trans ?_
  exact q_cV mt_X6_nops dX6_nops_14 rfl mt_X6_kind rfl rfl rfl
theorem e_X6_nops_23 (sc : SC) (p0 : Nat) (x1 : Int32) (x2 : Int32) (h : AH) : Run sc n_X6_nops 23 [aD p0, aI x1, aI x2] none [] h = Run sc n_X6_nops 26 [aD p0, aI (x1 + nI 1), aI x2] none [] h := by
  refine (s_go mt_X6_nops dX6_nops_23 rfl).trans ?_
  exact rfl
theorem e_X6_nops_26 (sc : SC) (p0 : Nat) (x1 : Int32) (x2 : Int32) (h : AH) : Run sc n_X6_nops 26 [aD p0, aI x1, aI x2] none [] h = Run sc n_X6_nops 4 [aD p0, aI x1, aI (x2 + nI 1)] none [] h := by
  refine (s_go mt_X6_nops dX6_nops_26 rfl).trans ?_
  refine (s_go mt_X6_nops dX6_nops_29 rfl).trans ?_
  exact rfl
theorem e_X6_nops_32 (sc : SC) (p0 : Nat) (x1 : Int32) (x2 : Int32) (h : AH) : Run sc n_X6_nops 32 [aD p0, aI x1, aI x2] none [] h = some (.inl (some (aI x1)), h) := by
  refine (s_go mt_X6_nops dX6_nops_32 rfl).trans ?_
  exact q_ret (c := (some (aI x1), h)) mt_X6_nops dX6_nops_33 rfl
theorem e_X6_nops_9 (sc : SC) (p0 : Nat) (x1 : Int32) (x2 : Int32) (y0 : Int32) (y1 : Int32) (h : AH) : Run sc n_X6_nops 9 [aD p0, aI x1, aI x2] none [aI y1, aI y0] h = Run sc n_X6_nops (if y1 ≤ y0 then 32 else 12) [aD p0, aI x1, aI x2] none [] h := by
  exact q_icmp mt_X6_nops dX6_nops_9 (fun _ _ _ _ => rfl) rfl
theorem e_X6_nops_17 (sc : SC) (p0 : Nat) (x1 : Int32) (x2 : Int32) (d0 : Nat) (h : AH) : Run sc n_X6_nops 17 [aD p0, aI x1, aI x2] none [aC d0] h = bI (1 ≤ d0 ∧ d0 < 13 ∧ 1 ≤ 1 ∧ 1 < 13) (Run sc n_X6_nops (if ¬ d0 = 1 then 26 else 23) [aD p0, aI x1, aI x2] none [] h) := by
  refine (s_go mt_X6_nops dX6_nops_17 rfl).trans ?_
  exact q_acmpne mt_X6_nops dX6_nops_20 rfl
/-! BranchSlotFiller$Program.reads(I)I -/
theorem e_X6_reads_0 (sc : SC) (p0 : Nat) (x1 : Int32) (v2 : AV) (v3 : AV) (v4 : AV) (h : AH) : Run sc n_X6_reads 0 [aD p0, aI x1, v2, v3, v4] none [] h = bF (getF sc h (aD p0) 8 0) (fun z => Run sc n_X6_reads 11 [aD p0, aI x1, aI (x1 * (nI 5)), v3, v4] none [z, aC 13] h) := by
  refine (s_go mt_X6_reads dX6_reads_0 rfl).trans ?_
  refine (s_go mt_X6_reads dX6_reads_1 rfl).trans ?_
  refine (s_go mt_X6_reads dX6_reads_2 rfl).trans ?_
  refine (s_go mt_X6_reads dX6_reads_3 rfl).trans ?_
  refine (s_go mt_X6_reads dX6_reads_4 rfl).trans ?_
  refine (s_go mt_X6_reads dX6_reads_7 rfl).trans ?_
  exact q_getfield mt_X6_reads dX6_reads_8 rfl
theorem e_X6_reads_24 (sc : SC) (p0 : Nat) (x1 : Int32) (x2 : Int32) (c3 : Nat) (v4 : AV) (h : AH) : Run sc n_X6_reads 24 [aD p0, aI x1, aI x2, aC c3, v4] none [] h = bF (getF sc h (aD p0) 8 0) (fun z => Run sc n_X6_reads 29 [aD p0, aI x1, aI x2, aC c3, v4] none [z, aI (nI 1)] h) := by
  refine (s_go mt_X6_reads dX6_reads_24 rfl).trans ?_
  refine (s_go mt_X6_reads dX6_reads_25 rfl).trans ?_
  exact q_getfield mt_X6_reads dX6_reads_26 rfl
theorem e_X6_reads_37 (sc : SC) (p0 : Nat) (x1 : Int32) (x2 : Int32) (c3 : Nat) (v4 : AV) (h : AH) : Run sc n_X6_reads 37 [aD p0, aI x1, aI x2, aC c3, v4] none [] h = Run sc n_X6_reads 38 [aD p0, aI x1, aI x2, aC c3, v4] none [aI (nI 0)] h := by
  refine (s_go mt_X6_reads dX6_reads_37 rfl).trans ?_
  exact rfl
theorem e_X6_reads_38 (sc : SC) (p0 : Nat) (x1 : Int32) (x2 : Int32) (c3 : Nat) (v4 : AV) (y0 : Int32) (h : AH) : Run sc n_X6_reads 38 [aD p0, aI x1, aI x2, aC c3, v4] none [aI y0] h = bF (getF sc h (aC c3) 100 4) (fun z => Run sc n_X6_reads 46 [aD p0, aI x1, aI x2, aC c3, aI y0] none [z, aI y0] h) := by
  refine (s_go mt_X6_reads dX6_reads_38 rfl).trans ?_
  refine (s_go mt_X6_reads dX6_reads_40 rfl).trans ?_
  refine (s_go mt_X6_reads dX6_reads_42 rfl).trans ?_
  exact q_getfield mt_X6_reads dX6_reads_43 rfl
theorem e_X6_reads_49 (sc : SC) (p0 : Nat) (x1 : Int32) (x2 : Int32) (c3 : Nat) (x4 : Int32) (y0 : Int32) (h : AH) : Run sc n_X6_reads 49 [aD p0, aI x1, aI x2, aC c3, aI x4] none [aI y0] h = bF (getF sc h (aD p0) 8 0) (fun z => Run sc n_X6_reads 54 [aD p0, aI x1, aI x2, aC c3, aI x4] none [z, aI (nI 1), aI y0] h) := by
  refine (s_go mt_X6_reads dX6_reads_49 rfl).trans ?_
  refine (s_go mt_X6_reads dX6_reads_50 rfl).trans ?_
  exact q_getfield mt_X6_reads dX6_reads_51 rfl
theorem e_X6_reads_62 (sc : SC) (p0 : Nat) (x1 : Int32) (x2 : Int32) (c3 : Nat) (x4 : Int32) (y0 : Int32) (h : AH) : Run sc n_X6_reads 62 [aD p0, aI x1, aI x2, aC c3, aI x4] none [aI y0] h = Run sc n_X6_reads 63 [aD p0, aI x1, aI x2, aC c3, aI x4] none [aI (nI 0), aI y0] h := by
  refine (s_go mt_X6_reads dX6_reads_62 rfl).trans ?_
  exact rfl
theorem e_X6_reads_63 (sc : SC) (p0 : Nat) (x1 : Int32) (x2 : Int32) (c3 : Nat) (x4 : Int32) (y0 : Int32) (y1 : Int32) (h : AH) : Run sc n_X6_reads 63 [aD p0, aI x1, aI x2, aC c3, aI x4] none [aI y1, aI y0] h = bF (getF sc h (aC c3) 100 5) (fun z => Run sc n_X6_reads 72 [aD p0, aI x1, aI x2, aC c3, aI (y0 ||| y1)] none [z, aI (y0 ||| y1)] h) := by
  refine (s_go mt_X6_reads dX6_reads_63 rfl).trans ?_
  refine (s_go mt_X6_reads dX6_reads_64 rfl).trans ?_
  refine (s_go mt_X6_reads dX6_reads_66 rfl).trans ?_
  refine (s_go mt_X6_reads dX6_reads_68 rfl).trans ?_
  exact q_getfield mt_X6_reads dX6_reads_69 rfl
theorem e_X6_reads_75 (sc : SC) (p0 : Nat) (x1 : Int32) (x2 : Int32) (c3 : Nat) (x4 : Int32) (y0 : Int32) (h : AH) : Run sc n_X6_reads 75 [aD p0, aI x1, aI x2, aC c3, aI x4] none [aI y0] h = bF (getF sc h (aD p0) 8 0) (fun z => Run sc n_X6_reads 80 [aD p0, aI x1, aI x2, aC c3, aI x4] none [z, aI (nI 1), aI y0] h) := by
  refine (s_go mt_X6_reads dX6_reads_75 rfl).trans ?_
  refine (s_go mt_X6_reads dX6_reads_76 rfl).trans ?_
  exact q_getfield mt_X6_reads dX6_reads_77 rfl
theorem e_X6_reads_88 (sc : SC) (p0 : Nat) (x1 : Int32) (x2 : Int32) (c3 : Nat) (x4 : Int32) (y0 : Int32) (h : AH) : Run sc n_X6_reads 88 [aD p0, aI x1, aI x2, aC c3, aI x4] none [aI y0] h = Run sc n_X6_reads 89 [aD p0, aI x1, aI x2, aC c3, aI x4] none [aI (nI 0), aI y0] h := by
  refine (s_go mt_X6_reads dX6_reads_88 rfl).trans ?_
  exact rfl
theorem e_X6_reads_89 (sc : SC) (p0 : Nat) (x1 : Int32) (x2 : Int32) (c3 : Nat) (x4 : Int32) (y0 : Int32) (y1 : Int32) (h : AH) : Run sc n_X6_reads 89 [aD p0, aI x1, aI x2, aC c3, aI x4] none [aI y1, aI y0] h = some (.inl (some (aI (y0 ||| y1))), h) := by
  refine (s_go mt_X6_reads dX6_reads_89 rfl).trans ?_
  refine (s_go mt_X6_reads dX6_reads_90 rfl).trans ?_
  refine (s_go mt_X6_reads dX6_reads_92 rfl).trans ?_
  exact q_ret (c := (some (aI (y0 ||| y1)), h)) mt_X6_reads dX6_reads_94 rfl
theorem e_X6_reads_11 (sc : SC) (p0 : Nat) (x1 : Int32) (x2 : Int32) (v3 : AV) (v4 : AV) (d0 : Nat) (q1 : Nat) (h : AH) : Run sc n_X6_reads 11 [aD p0, aI x1, aI x2, v3, v4] none [aD q1, aC d0] h = bO (ldI sc h (fun t => t == 0) (aD q1) (x2 + (nI 0))) (fun z => Run sc n_X6_reads 15 [aD p0, aI x1, aI x2, v3, v4] none [aI z, aC d0] h) := by
  refine (s_go mt_X6_reads dX6_reads_11 rfl).trans ?_
  refine (s_go mt_X6_reads dX6_reads_12 rfl).trans ?_
  refine (s_go mt_X6_reads dX6_reads_13 rfl).trans ?_
  exact q_iaload mt_X6_reads dX6_reads_14
theorem e_X6_reads_29 (sc : SC) (p0 : Nat) (x1 : Int32) (x2 : Int32) (c3 : Nat) (v4 : AV) (y0 : Int32) (q1 : Nat) (h : AH) : Run sc n_X6_reads 29 [aD p0, aI x1, aI x2, aC c3, v4] none [aD q1, aI y0] h = bO (ldI sc h (fun t => t == 0) (aD q1) (x2 + (nI 1))) (fun z => Run sc n_X6_reads 33 [aD p0, aI x1, aI x2, aC c3, v4] none [aI z, aI y0] h) := by
  refine (s_go mt_X6_reads dX6_reads_29 rfl).trans ?_
  refine (s_go mt_X6_reads dX6_reads_30 rfl).trans ?_
  refine (s_go mt_X6_reads dX6_reads_31 rfl).trans ?_
  exact q_iaload mt_X6_reads dX6_reads_32
theorem e_X6_reads_46 (sc : SC) (p0 : Nat) (x1 : Int32) (x2 : Int32) (c3 : Nat) (x4 : Int32) (y0 : Int32) (y1 : Int32) (h : AH) : Run sc n_X6_reads 46 [aD p0, aI x1, aI x2, aC c3, aI x4] none [aI y1, aI y0] h = Run sc n_X6_reads (if y1 = 0 then 62 else 49) [aD p0, aI x1, aI x2, aC c3, aI x4] none [aI y0] h := by
  exact q_if mt_X6_reads dX6_reads_46 (fun _ _ _ _ => rfl) rfl
theorem e_X6_reads_54 (sc : SC) (p0 : Nat) (x1 : Int32) (x2 : Int32) (c3 : Nat) (x4 : Int32) (y0 : Int32) (y1 : Int32) (q2 : Nat) (h : AH) : Run sc n_X6_reads 54 [aD p0, aI x1, aI x2, aC c3, aI x4] none [aD q2, aI y1, aI y0] h = bO (ldI sc h (fun t => t == 0) (aD q2) (x2 + (nI 2))) (fun z => Run sc n_X6_reads 58 [aD p0, aI x1, aI x2, aC c3, aI x4] none [aI z, aI y1, aI y0] h) := by
  refine (s_go mt_X6_reads dX6_reads_54 rfl).trans ?_
  refine (s_go mt_X6_reads dX6_reads_55 rfl).trans ?_
  refine (s_go mt_X6_reads dX6_reads_56 rfl).trans ?_
  exact q_iaload mt_X6_reads dX6_reads_57
theorem e_X6_reads_72 (sc : SC) (p0 : Nat) (x1 : Int32) (x2 : Int32) (c3 : Nat) (x4 : Int32) (y0 : Int32) (y1 : Int32) (h : AH) : Run sc n_X6_reads 72 [aD p0, aI x1, aI x2, aC c3, aI x4] none [aI y1, aI y0] h = Run sc n_X6_reads (if y1 = 0 then 88 else 75) [aD p0, aI x1, aI x2, aC c3, aI x4] none [aI y0] h := by
  exact q_if mt_X6_reads dX6_reads_72 (fun _ _ _ _ => rfl) rfl
theorem e_X6_reads_80 (sc : SC) (p0 : Nat) (x1 : Int32) (x2 : Int32) (c3 : Nat) (x4 : Int32) (y0 : Int32) (y1 : Int32) (q2 : Nat) (h : AH) : Run sc n_X6_reads 80 [aD p0, aI x1, aI x2, aC c3, aI x4] none [aD q2, aI y1, aI y0] h = bO (ldI sc h (fun t => t == 0) (aD q2) (x2 + (nI 3))) (fun z => Run sc n_X6_reads 84 [aD p0, aI x1, aI x2, aC c3, aI x4] none [aI z, aI y1, aI y0] h) := by
  refine (s_go mt_X6_reads dX6_reads_80 rfl).trans ?_
  refine (s_go mt_X6_reads dX6_reads_81 rfl).trans ?_
  refine (s_go mt_X6_reads dX6_reads_82 rfl).trans ?_
  exact q_iaload mt_X6_reads dX6_reads_83
theorem e_X6_reads_15 (sc : SC) (p0 : Nat) (x1 : Int32) (x2 : Int32) (v3 : AV) (v4 : AV) (d0 : Nat) (y1 : Int32) (h : AH) : Run sc n_X6_reads 15 [aD p0, aI x1, aI x2, v3, v4] none [aI y1, aC d0] h = bO (ldR sc h (aC d0) y1) (fun z => Run sc n_X6_reads 16 [aD p0, aI x1, aI x2, v3, v4] none [z] h) := by
  exact q_aaload mt_X6_reads dX6_reads_15
theorem e_X6_reads_33 (sc : SC) (p0 : Nat) (x1 : Int32) (x2 : Int32) (c3 : Nat) (v4 : AV) (y0 : Int32) (y1 : Int32) (h : AH) : Run sc n_X6_reads 33 [aD p0, aI x1, aI x2, aC c3, v4] none [aI y1, aI y0] h = Run sc n_X6_reads 38 [aD p0, aI x1, aI x2, aC c3, v4] none [aI (y0 <<< (y1 &&& 31))] h := by
  refine (s_go mt_X6_reads dX6_reads_33 rfl).trans ?_
  refine (s_go mt_X6_reads dX6_reads_34 rfl).trans ?_
  exact rfl
theorem e_X6_reads_58 (sc : SC) (p0 : Nat) (x1 : Int32) (x2 : Int32) (c3 : Nat) (x4 : Int32) (y0 : Int32) (y1 : Int32) (y2 : Int32) (h : AH) : Run sc n_X6_reads 58 [aD p0, aI x1, aI x2, aC c3, aI x4] none [aI y2, aI y1, aI y0] h = Run sc n_X6_reads 63 [aD p0, aI x1, aI x2, aC c3, aI x4] none [aI (y1 <<< (y2 &&& 31)), aI y0] h := by
  refine (s_go mt_X6_reads dX6_reads_58 rfl).trans ?_
  refine (s_go mt_X6_reads dX6_reads_59 rfl).trans ?_
  exact rfl
theorem e_X6_reads_84 (sc : SC) (p0 : Nat) (x1 : Int32) (x2 : Int32) (c3 : Nat) (x4 : Int32) (y0 : Int32) (y1 : Int32) (y2 : Int32) (h : AH) : Run sc n_X6_reads 84 [aD p0, aI x1, aI x2, aC c3, aI x4] none [aI y2, aI y1, aI y0] h = Run sc n_X6_reads 89 [aD p0, aI x1, aI x2, aC c3, aI x4] none [aI (y1 <<< (y2 &&& 31)), aI y0] h := by
  refine (s_go mt_X6_reads dX6_reads_84 rfl).trans ?_
  refine (s_go mt_X6_reads dX6_reads_85 rfl).trans ?_
  exact rfl
theorem e_X6_reads_16 (sc : SC) (p0 : Nat) (x1 : Int32) (x2 : Int32) (v3 : AV) (v4 : AV) (d0 : Nat) (h : AH) : Run sc n_X6_reads 16 [aD p0, aI x1, aI x2, v3, v4] none [aC d0] h = bF (getF sc h (aC d0) 100 3) (fun z => Run sc n_X6_reads 21 [aD p0, aI x1, aI x2, aC d0, v4] none [z] h) := by
  refine (s_go mt_X6_reads dX6_reads_16 rfl).trans ?_
  refine (s_go mt_X6_reads dX6_reads_17 rfl).trans ?_
  exact q_getfield mt_X6_reads dX6_reads_18 rfl
theorem e_X6_reads_21 (sc : SC) (p0 : Nat) (x1 : Int32) (x2 : Int32) (c3 : Nat) (v4 : AV) (y0 : Int32) (h : AH) : Run sc n_X6_reads 21 [aD p0, aI x1, aI x2, aC c3, v4] none [aI y0] h = Run sc n_X6_reads (if y0 = 0 then 37 else 24) [aD p0, aI x1, aI x2, aC c3, v4] none [] h := by
  exact q_if mt_X6_reads dX6_reads_21 (fun _ _ _ _ => rfl) rfl
/-! BranchSlotFiller$Program.writes(I)I -/
theorem e_X6_writes_0 (sc : SC) (p0 : Nat) (x1 : Int32) (v2 : AV) (h : AH) : Run sc n_X6_writes 0 [aD p0, aI x1, v2] none [] h = bF (getF sc h (aD p0) 8 0) (fun z => Run sc n_X6_writes 11 [aD p0, aI x1, aI (x1 * (nI 5))] none [z, aC 13] h) := by
  refine (s_go mt_X6_writes dX6_writes_0 rfl).trans ?_
  refine (s_go mt_X6_writes dX6_writes_1 rfl).trans ?_
  refine (s_go mt_X6_writes dX6_writes_2 rfl).trans ?_
  refine (s_go mt_X6_writes dX6_writes_3 rfl).trans ?_
  refine (s_go mt_X6_writes dX6_writes_4 rfl).trans ?_
  refine (s_go mt_X6_writes dX6_writes_7 rfl).trans ?_
  exact q_getfield mt_X6_writes dX6_writes_8 rfl
theorem e_X6_writes_22 (sc : SC) (p0 : Nat) (x1 : Int32) (x2 : Int32) (h : AH) : Run sc n_X6_writes 22 [aD p0, aI x1, aI x2] none [] h = bF (getF sc h (aD p0) 8 0) (fun z => Run sc n_X6_writes 27 [aD p0, aI x1, aI x2] none [z, aI (nI 1)] h) := by
  refine (s_go mt_X6_writes dX6_writes_22 rfl).trans ?_
  refine (s_go mt_X6_writes dX6_writes_23 rfl).trans ?_
  exact q_getfield mt_X6_writes dX6_writes_24 rfl
theorem e_X6_writes_35 (sc : SC) (p0 : Nat) (x1 : Int32) (x2 : Int32) (h : AH) : Run sc n_X6_writes 35 [aD p0, aI x1, aI x2] none [] h = Run sc n_X6_writes 36 [aD p0, aI x1, aI x2] none [aI (nI 0)] h := by
  refine (s_go mt_X6_writes dX6_writes_35 rfl).trans ?_
  exact rfl
theorem e_X6_writes_36 (sc : SC) (p0 : Nat) (x1 : Int32) (x2 : Int32) (y0 : Int32) (h : AH) : Run sc n_X6_writes 36 [aD p0, aI x1, aI x2] none [aI y0] h = some (.inl (some (aI y0)), h) := by
  exact q_ret (c := (some (aI y0), h)) mt_X6_writes dX6_writes_36 rfl
theorem e_X6_writes_11 (sc : SC) (p0 : Nat) (x1 : Int32) (x2 : Int32) (d0 : Nat) (q1 : Nat) (h : AH) : Run sc n_X6_writes 11 [aD p0, aI x1, aI x2] none [aD q1, aC d0] h = bO (ldI sc h (fun t => t == 0) (aD q1) (x2 + (nI 0))) (fun z => Run sc n_X6_writes 15 [aD p0, aI x1, aI x2] none [aI z, aC d0] h) := by
  refine (s_go mt_X6_writes dX6_writes_11 rfl).trans ?_
  refine (s_go mt_X6_writes dX6_writes_12 rfl).trans ?_
  refine (s_go mt_X6_writes dX6_writes_13 rfl).trans ?_
  exact q_iaload mt_X6_writes dX6_writes_14
theorem e_X6_writes_27 (sc : SC) (p0 : Nat) (x1 : Int32) (x2 : Int32) (y0 : Int32) (q1 : Nat) (h : AH) : Run sc n_X6_writes 27 [aD p0, aI x1, aI x2] none [aD q1, aI y0] h = bO (ldI sc h (fun t => t == 0) (aD q1) (x2 + (nI 1))) (fun z => Run sc n_X6_writes 31 [aD p0, aI x1, aI x2] none [aI z, aI y0] h) := by
  refine (s_go mt_X6_writes dX6_writes_27 rfl).trans ?_
  refine (s_go mt_X6_writes dX6_writes_28 rfl).trans ?_
  refine (s_go mt_X6_writes dX6_writes_29 rfl).trans ?_
  exact q_iaload mt_X6_writes dX6_writes_30
theorem e_X6_writes_15 (sc : SC) (p0 : Nat) (x1 : Int32) (x2 : Int32) (d0 : Nat) (y1 : Int32) (h : AH) : Run sc n_X6_writes 15 [aD p0, aI x1, aI x2] none [aI y1, aC d0] h = bO (ldR sc h (aC d0) y1) (fun z => Run sc n_X6_writes 16 [aD p0, aI x1, aI x2] none [z] h) := by
  exact q_aaload mt_X6_writes dX6_writes_15
theorem e_X6_writes_31 (sc : SC) (p0 : Nat) (x1 : Int32) (x2 : Int32) (y0 : Int32) (y1 : Int32) (h : AH) : Run sc n_X6_writes 31 [aD p0, aI x1, aI x2] none [aI y1, aI y0] h = Run sc n_X6_writes 36 [aD p0, aI x1, aI x2] none [aI (y0 <<< (y1 &&& 31))] h := by
  refine (s_go mt_X6_writes dX6_writes_31 rfl).trans ?_
  refine (s_go mt_X6_writes dX6_writes_32 rfl).trans ?_
  exact rfl
theorem e_X6_writes_16 (sc : SC) (p0 : Nat) (x1 : Int32) (x2 : Int32) (d0 : Nat) (h : AH) : Run sc n_X6_writes 16 [aD p0, aI x1, aI x2] none [aC d0] h = bF (getF sc h (aC d0) 100 2) (fun z => Run sc n_X6_writes 19 [aD p0, aI x1, aI x2] none [z] h) := by
  exact q_getfield mt_X6_writes dX6_writes_16 rfl
theorem e_X6_writes_19 (sc : SC) (p0 : Nat) (x1 : Int32) (x2 : Int32) (y0 : Int32) (h : AH) : Run sc n_X6_writes 19 [aD p0, aI x1, aI x2] none [aI y0] h = Run sc n_X6_writes (if y0 = 0 then 35 else 22) [aD p0, aI x1, aI x2] none [] h := by
  exact q_if mt_X6_writes dX6_writes_19 (fun _ _ _ _ => rfl) rfl
/-! BranchSlotFiller$Program.isAnnulling(I)Z -/
theorem e_X6_isAnnulling_0 (sc : SC) (p0 : Nat) (x1 : Int32) (h : AH) : Run sc n_X6_isAnnulling 0 [aD p0, aI x1] none [] h = bF (getF sc h (aD p0) 8 0) (fun z => Run sc n_X6_isAnnulling 4 [aD p0, aI x1] none [z] h) := by
  refine (s_go mt_X6_isAnnulling dX6_isAnnulling_0 rfl).trans ?_
  exact q_getfield mt_X6_isAnnulling dX6_isAnnulling_1 rfl
theorem e_X6_isAnnulling_14 (sc : SC) (p0 : Nat) (x1 : Int32) (h : AH) : Run sc n_X6_isAnnulling 14 [aD p0, aI x1] none [] h = Run sc n_X6_isAnnulling 19 [aD p0, aI x1] none [aI (nI 1)] h := by
  refine (s_go mt_X6_isAnnulling dX6_isAnnulling_14 rfl).trans ?_
  refine (s_go mt_X6_isAnnulling dX6_isAnnulling_15 rfl).trans ?_
  exact rfl
theorem e_X6_isAnnulling_18 (sc : SC) (p0 : Nat) (x1 : Int32) (h : AH) : Run sc n_X6_isAnnulling 18 [aD p0, aI x1] none [] h = Run sc n_X6_isAnnulling 19 [aD p0, aI x1] none [aI (nI 0)] h := by
  refine (s_go mt_X6_isAnnulling dX6_isAnnulling_18 rfl).trans ?_
  exact rfl
theorem e_X6_isAnnulling_19 (sc : SC) (p0 : Nat) (x1 : Int32) (y0 : Int32) (h : AH) : Run sc n_X6_isAnnulling 19 [aD p0, aI x1] none [aI y0] h = bI (retK (some FieldType.boolean) y0 = true) (some (.inl (some (aI y0)), h)) := by
  exact q_iret mt_X6_isAnnulling dX6_isAnnulling_19
theorem e_X6_isAnnulling_4 (sc : SC) (p0 : Nat) (x1 : Int32) (q0 : Nat) (h : AH) : Run sc n_X6_isAnnulling 4 [aD p0, aI x1] none [aD q0] h = bO (ldI sc h (fun t => t == 0) (aD q0) ((x1 * (nI 5)) + (nI 4))) (fun z => Run sc n_X6_isAnnulling 10 [aD p0, aI x1] none [aI z] h) := by
  refine (s_go mt_X6_isAnnulling dX6_isAnnulling_4 rfl).trans ?_
  refine (s_go mt_X6_isAnnulling dX6_isAnnulling_5 rfl).trans ?_
  refine (s_go mt_X6_isAnnulling dX6_isAnnulling_6 rfl).trans ?_
  refine (s_go mt_X6_isAnnulling dX6_isAnnulling_7 rfl).trans ?_
  refine (s_go mt_X6_isAnnulling dX6_isAnnulling_8 rfl).trans ?_
  exact q_iaload mt_X6_isAnnulling dX6_isAnnulling_9
theorem e_X6_isAnnulling_10 (sc : SC) (p0 : Nat) (x1 : Int32) (y0 : Int32) (h : AH) : Run sc n_X6_isAnnulling 10 [aD p0, aI x1] none [aI y0] h = Run sc n_X6_isAnnulling (if ¬ y0 = (nI 1) then 18 else 14) [aD p0, aI x1] none [] h := by
  refine (s_go mt_X6_isAnnulling dX6_isAnnulling_10 rfl).trans ?_
  exact q_icmp mt_X6_isAnnulling dX6_isAnnulling_11 (fun _ _ _ _ => rfl) rfl
/-! BranchSlotFiller$Program.areIndependent(II)Z -/
theorem e_X6_areIndependent_0 (sc : SC) (p0 : Nat) (x1 : Int32) (x2 : Int32) (v3 : AV) (v4 : AV) (h : AH) : Run sc n_X6_areIndependent 0 [aD p0, aI x1, aI x2, v3, v4] none [] h = bI (rOK sc h (aD p0) 8 = true) (bC (Call sc n_X6_writes [aD p0, aI x1] h) (fun v z => Run sc n_X6_areIndependent 5 [aD p0, aI x1, aI x2, v3, v4] none (v.toList ++ []) z) (fun E z => some (.inr E, z))) := by
  refine (s_go mt_X6_areIndependent dX6_areIndependent_0 rfl).trans ?_
  refine (s_go mt_X6_areIndependent dX6_areIndependent_1 rfl).trans ?_
  exact q_cV mt_X6_areIndependent dX6_areIndependent_2 rfl mt_X6_writes rfl rfl rfl
theorem e_X6_areIndependent_20 (sc : SC) (p0 : Nat) (x1 : Int32) (x2 : Int32) (v3 : AV) (v4 : AV) (h : AH) : Run sc n_X6_areIndependent 20 [aD p0, aI x1, aI x2, v3, v4] none [] h = bI (rOK sc h (aD p0) 8 = true) (bC (Call sc n_X6_writes [aD p0, aI x2] h) (fun v z => Run sc n_X6_areIndependent 25 [aD p0, aI x1, aI x2, v3, v4] none (v.toList ++ []) z) (fun E z => some (.inr E, z))) := by
  refine (s_go mt_X6_areIndependent dX6_areIndependent_20 rfl).trans ?_
  refine (s_go mt_X6_areIndependent dX6_areIndependent_21 rfl).trans ?_
  exact q_cV mt_X6_areIndependent dX6_areIndependent_22 rfl mt_X6_writes rfl rfl rfl
theorem e_X6_areIndependent_34 (sc : SC) (p0 : Nat) (x1 : Int32) (x2 : Int32) (v3 : AV) (v4 : AV) (h : AH) : Run sc n_X6_areIndependent 34 [aD p0, aI x1, aI x2, v3, v4] none [] h = some (.inl (some (aI (nI 0))), h) := by
  refine (s_go mt_X6_areIndependent dX6_areIndependent_34 rfl).trans ?_
  exact q_ret (c := (some (aI (nI 0)), h)) mt_X6_areIndependent dX6_areIndependent_35 rfl
theorem e_X6_areIndependent_36 (sc : SC) (p0 : Nat) (x1 : Int32) (x2 : Int32) (v3 : AV) (v4 : AV) (h : AH) : Run sc n_X6_areIndependent 36 [aD p0, aI x1, aI x2, v3, v4] none [] h = bI (rOK sc h (aD p0) 8 = true) (bC (Call sc n_X6_kind [aD p0, aI x1] h) (fun v z => Run sc n_X6_areIndependent 41 [aD p0, aI x1, aI x2, v3, v4] none (v.toList ++ []) z) (fun E z => some (.inr E, z))) := by
  refine (s_go mt_X6_areIndependent dX6_areIndependent_36 rfl).trans ?_
  refine (s_go mt_X6_areIndependent dX6_areIndependent_37 rfl).trans ?_
  exact q_cV mt_X6_areIndependent dX6_areIndependent_38 rfl mt_X6_kind rfl rfl rfl
theorem e_X6_areIndependent_56 (sc : SC) (p0 : Nat) (x1 : Int32) (x2 : Int32) (c3 : Nat) (c4 : Nat) (h : AH) : Run sc n_X6_areIndependent 56 [aD p0, aI x1, aI x2, aC c3, aC c4] none [] h = bI (rOK sc h (aC c4) 100 = true) (bC (Call sc n_X4_isMemoryAccess [aC c4] h) (fun v z => Run sc n_X6_areIndependent 61 [aD p0, aI x1, aI x2, aC c3, aC c4] none (v.toList ++ []) z) (fun E z => some (.inr E, z))) := by
  refine (s_go mt_X6_areIndependent dX6_areIndependent_56 rfl).trans ?_
  exact q_cV mt_X6_areIndependent dX6_areIndependent_58 rfl mt_X4_isMemoryAccess rfl rfl rfl
theorem e_X6_areIndependent_64 (sc : SC) (p0 : Nat) (x1 : Int32) (x2 : Int32) (c3 : Nat) (c4 : Nat) (h : AH) : Run sc n_X6_areIndependent 64 [aD p0, aI x1, aI x2, aC c3, aC c4] none [] h = bI (1 ≤ c3 ∧ c3 < 13 ∧ 1 ≤ 7 ∧ 7 < 13) (Run sc n_X6_areIndependent (if c3 = 7 then 79 else 71) [aD p0, aI x1, aI x2, aC c3, aC c4] none [] h) := by
  refine (s_go mt_X6_areIndependent dX6_areIndependent_64 rfl).trans ?_
  refine (s_go mt_X6_areIndependent dX6_areIndependent_65 rfl).trans ?_
  exact q_acmpeq mt_X6_areIndependent dX6_areIndependent_68 rfl
theorem e_X6_areIndependent_71 (sc : SC) (p0 : Nat) (x1 : Int32) (x2 : Int32) (c3 : Nat) (c4 : Nat) (h : AH) : Run sc n_X6_areIndependent 71 [aD p0, aI x1, aI x2, aC c3, aC c4] none [] h = bI (1 ≤ c4 ∧ c4 < 13 ∧ 1 ≤ 7 ∧ 7 < 13) (Run sc n_X6_areIndependent (if ¬ c4 = 7 then 81 else 79) [aD p0, aI x1, aI x2, aC c3, aC c4] none [] h) := by
  refine (s_go mt_X6_areIndependent dX6_areIndependent_71 rfl).trans ?_
  refine (s_go mt_X6_areIndependent dX6_areIndependent_73 rfl).trans ?_
  exact q_acmpne mt_X6_areIndependent dX6_areIndependent_76 rfl
theorem e_X6_areIndependent_79 (sc : SC) (p0 : Nat) (x1 : Int32) (x2 : Int32) (c3 : Nat) (c4 : Nat) (h : AH) : Run sc n_X6_areIndependent 79 [aD p0, aI x1, aI x2, aC c3, aC c4] none [] h = some (.inl (some (aI (nI 0))), h) := by
  refine (s_go mt_X6_areIndependent dX6_areIndependent_79 rfl).trans ?_
  exact q_ret (c := (some (aI (nI 0)), h)) mt_X6_areIndependent dX6_areIndependent_80 rfl
theorem e_X6_areIndependent_81 (sc : SC) (p0 : Nat) (x1 : Int32) (x2 : Int32) (c3 : Nat) (c4 : Nat) (h : AH) : Run sc n_X6_areIndependent 81 [aD p0, aI x1, aI x2, aC c3, aC c4] none [] h = bI (1 ≤ c3 ∧ c3 < 13 ∧ 1 ≤ 8 ∧ 8 < 13) (Run sc n_X6_areIndependent (if ¬ c3 = 8 then 96 else 88) [aD p0, aI x1, aI x2, aC c3, aC c4] none [] h) := by
  refine (s_go mt_X6_areIndependent dX6_areIndependent_81 rfl).trans ?_
  refine (s_go mt_X6_areIndependent dX6_areIndependent_82 rfl).trans ?_
  exact q_acmpne mt_X6_areIndependent dX6_areIndependent_85 rfl
theorem e_X6_areIndependent_88 (sc : SC) (p0 : Nat) (x1 : Int32) (x2 : Int32) (c3 : Nat) (c4 : Nat) (h : AH) : Run sc n_X6_areIndependent 88 [aD p0, aI x1, aI x2, aC c3, aC c4] none [] h = bI (1 ≤ c4 ∧ c4 < 13 ∧ 1 ≤ 8 ∧ 8 < 13) (Run sc n_X6_areIndependent (if c4 = 8 then 100 else 96) [aD p0, aI x1, aI x2, aC c3, aC c4] none [] h) := by
  refine (s_go mt_X6_areIndependent dX6_areIndependent_88 rfl).trans ?_
  refine (s_go mt_X6_areIndependent dX6_areIndependent_90 rfl).trans ?_
  exact q_acmpeq mt_X6_areIndependent dX6_areIndependent_93 rfl
theorem e_X6_areIndependent_96 (sc : SC) (p0 : Nat) (x1 : Int32) (x2 : Int32) (c3 : Nat) (c4 : Nat) (h : AH) : Run sc n_X6_areIndependent 96 [aD p0, aI x1, aI x2, aC c3, aC c4] none [] h = Run sc n_X6_areIndependent 101 [aD p0, aI x1, aI x2, aC c3, aC c4] none [aI (nI 1)] h := by
  refine (s_go mt_X6_areIndependent dX6_areIndependent_96 rfl).trans ?_
  refine (s_go mt_X6_areIndependent dX6_areIndependent_97 rfl).trans ?_
  exact rfl
theorem e_X6_areIndependent_100 (sc : SC) (p0 : Nat) (x1 : Int32) (x2 : Int32) (c3 : Nat) (c4 : Nat) (h : AH) : Run sc n_X6_areIndependent 100 [aD p0, aI x1, aI x2, aC c3, aC c4] none [] h = Run sc n_X6_areIndependent 101 [aD p0, aI x1, aI x2, aC c3, aC c4] none [aI (nI 0)] h := by
  refine (s_go mt_X6_areIndependent dX6_areIndependent_100 rfl).trans ?_
  exact rfl
theorem e_X6_areIndependent_101 (sc : SC) (p0 : Nat) (x1 : Int32) (x2 : Int32) (c3 : Nat) (c4 : Nat) (y0 : Int32) (h : AH) : Run sc n_X6_areIndependent 101 [aD p0, aI x1, aI x2, aC c3, aC c4] none [aI y0] h = bI (retK (some FieldType.boolean) y0 = true) (some (.inl (some (aI y0)), h)) := by
  exact q_iret mt_X6_areIndependent dX6_areIndependent_101
theorem e_X6_areIndependent_5 (sc : SC) (p0 : Nat) (x1 : Int32) (x2 : Int32) (v3 : AV) (v4 : AV) (y0 : Int32) (h : AH) : Run sc n_X6_areIndependent 5 [aD p0, aI x1, aI x2, v3, v4] none [aI y0] h = bI (rOK sc h (aD p0) 8 = true) (bC (Call sc n_X6_reads [aD p0, aI x2] h) (fun v z => Run sc n_X6_areIndependent 10 [aD p0, aI x1, aI x2, v3, v4] none (v.toList ++ [aI y0]) z) (fun E z => some (.inr E, z))) := by
  refine (s_go mt_X6_areIndependent dX6_areIndependent_5 rfl).trans ?_
  refine (s_go mt_X6_areIndependent dX6_areIndependent_6 rfl).trans ?_
  exact q_cV mt_X6_areIndependent dX6_areIndependent_7 rfl mt_X6_reads rfl rfl rfl
theorem e_X6_areIndependent_25 (sc : SC) (p0 : Nat) (x1 : Int32) (x2 : Int32) (v3 : AV) (v4 : AV) (y0 : Int32) (h : AH) : Run sc n_X6_areIndependent 25 [aD p0, aI x1, aI x2, v3, v4] none [aI y0] h = bI (rOK sc h (aD p0) 8 = true) (bC (Call sc n_X6_reads [aD p0, aI x1] h) (fun v z => Run sc n_X6_areIndependent 30 [aD p0, aI x1, aI x2, v3, v4] none (v.toList ++ [aI y0]) z) (fun E z => some (.inr E, z))) := by
  refine (s_go mt_X6_areIndependent dX6_areIndependent_25 rfl).trans ?_
  refine (s_go mt_X6_areIndependent dX6_areIndependent_26 rfl).trans ?_
  exact q_cV mt_X6_areIndependent dX6_areIndependent_27 rfl mt_X6_reads rfl rfl rfl
theorem e_X6_areIndependent_41 (sc : SC) (p0 : Nat) (x1 : Int32) (x2 : Int32) (v3 : AV) (v4 : AV) (d0 : Nat) (h : AH) : Run sc n_X6_areIndependent 41 [aD p0, aI x1, aI x2, v3, v4] none [aC d0] h = bI (rOK sc h (aD p0) 8 = true) (bC (Call sc n_X6_kind [aD p0, aI x2] h) (fun v z => Run sc n_X6_areIndependent 47 [aD p0, aI x1, aI x2, aC d0, v4] none (v.toList ++ []) z) (fun E z => some (.inr E, z))) := by
  refine (s_go mt_X6_areIndependent dX6_areIndependent_41 rfl).trans ?_
  refine (s_go mt_X6_areIndependent dX6_areIndependent_42 rfl).trans ?_
  refine (s_go mt_X6_areIndependent dX6_areIndependent_43 rfl).trans ?_
  exact q_cV mt_X6_areIndependent dX6_areIndependent_44 rfl mt_X6_kind rfl rfl rfl
theorem e_X6_areIndependent_61 (sc : SC) (p0 : Nat) (x1 : Int32) (x2 : Int32) (c3 : Nat) (c4 : Nat) (y0 : Int32) (h : AH) : Run sc n_X6_areIndependent 61 [aD p0, aI x1, aI x2, aC c3, aC c4] none [aI y0] h = Run sc n_X6_areIndependent (if y0 = 0 then 81 else 64) [aD p0, aI x1, aI x2, aC c3, aC c4] none [] h := by
  exact q_if mt_X6_areIndependent dX6_areIndependent_61 (fun _ _ _ _ => rfl) rfl
theorem e_X6_areIndependent_10 (sc : SC) (p0 : Nat) (x1 : Int32) (x2 : Int32) (v3 : AV) (v4 : AV) (y0 : Int32) (y1 : Int32) (h : AH) : Run sc n_X6_areIndependent 10 [aD p0, aI x1, aI x2, v3, v4] none [aI y1, aI y0] h = bI (rOK sc h (aD p0) 8 = true) (bC (Call sc n_X6_writes [aD p0, aI x2] h) (fun v z => Run sc n_X6_areIndependent 15 [aD p0, aI x1, aI x2, v3, v4] none (v.toList ++ [aI y1, aI y0]) z) (fun E z => some (.inr E, z))) := by
  refine (s_go mt_X6_areIndependent dX6_areIndependent_10 rfl).trans ?_
  refine (s_go mt_X6_areIndependent dX6_areIndependent_11 rfl).trans ?_
  exact q_cV mt_X6_areIndependent dX6_areIndependent_12 rfl mt_X6_writes rfl rfl rfl
theorem e_X6_areIndependent_30 (sc : SC) (p0 : Nat) (x1 : Int32) (x2 : Int32) (v3 : AV) (v4 : AV) (y0 : Int32) (y1 : Int32) (h : AH) : Run sc n_X6_areIndependent 30 [aD p0, aI x1, aI x2, v3, v4] none [aI y1, aI y0] h = Run sc n_X6_areIndependent (if (y0 &&& y1) = 0 then 36 else 34) [aD p0, aI x1, aI x2, v3, v4] none [] h := by
  refine (s_go mt_X6_areIndependent dX6_areIndependent_30 rfl).trans ?_
  exact q_if mt_X6_areIndependent dX6_areIndependent_31 (fun _ _ _ _ => rfl) rfl
theorem e_X6_areIndependent_47 (sc : SC) (p0 : Nat) (x1 : Int32) (x2 : Int32) (c3 : Nat) (v4 : AV) (d0 : Nat) (h : AH) : Run sc n_X6_areIndependent 47 [aD p0, aI x1, aI x2, aC c3, v4] none [aC d0] h = bI (rOK sc h (aC c3) 100 = true) (bC (Call sc n_X4_isMemoryAccess [aC c3] h) (fun v z => Run sc n_X6_areIndependent 53 [aD p0, aI x1, aI x2, aC c3, aC d0] none (v.toList ++ []) z) (fun E z => some (.inr E, z))) := by
  refine (s_go mt_X6_areIndependent dX6_areIndependent_47 rfl).trans ?_
  refine (s_go mt_X6_areIndependent dX6_areIndependent_49 rfl).trans ?_
  exact q_cV mt_X6_areIndependent dX6_areIndependent_50 rfl mt_X4_isMemoryAccess rfl rfl rfl
theorem e_X6_areIndependent_15 (sc : SC) (p0 : Nat) (x1 : Int32) (x2 : Int32) (v3 : AV) (v4 : AV) (y0 : Int32) (y1 : Int32) (y2 : Int32) (h : AH) : Run sc n_X6_areIndependent 15 [aD p0, aI x1, aI x2, v3, v4] none [aI y2, aI y1, aI y0] h = Run sc n_X6_areIndependent (if ¬ (y0 &&& (y1 ||| y2)) = 0 then 34 else 20) [aD p0, aI x1, aI x2, v3, v4] none [] h := by
  refine (s_go mt_X6_areIndependent dX6_areIndependent_15 rfl).trans ?_
  refine (s_go mt_X6_areIndependent dX6_areIndependent_16 rfl).trans ?_
  exact q_if mt_X6_areIndependent dX6_areIndependent_17 (fun _ _ _ _ => rfl) rfl
theorem e_X6_areIndependent_53 (sc : SC) (p0 : Nat) (x1 : Int32) (x2 : Int32) (c3 : Nat) (c4 : Nat) (y0 : Int32) (h : AH) : Run sc n_X6_areIndependent 53 [aD p0, aI x1, aI x2, aC c3, aC c4] none [aI y0] h = Run sc n_X6_areIndependent (if y0 = 0 then 81 else 56) [aD p0, aI x1, aI x2, aC c3, aC c4] none [] h := by
  exact q_if mt_X6_areIndependent dX6_areIndependent_53 (fun _ _ _ _ => rfl) rfl
/-! BranchSlotFiller$Program.copyInstruction(II)V -/
theorem e_X6_copyInstruction_0 (sc : SC) (p0 : Nat) (x1 : Int32) (x2 : Int32) (h : AH) : Run sc n_X6_copyInstruction 0 [aD p0, aI x1, aI x2] none [] h = bF (getF sc h (aD p0) 8 0) (fun z => Run sc n_X6_copyInstruction 4 [aD p0, aI x1, aI x2] none [z] h) := by
  refine (s_go mt_X6_copyInstruction dX6_copyInstruction_0 rfl).trans ?_
  exact q_getfield mt_X6_copyInstruction dX6_copyInstruction_1 rfl
theorem e_X6_copyInstruction_4 (sc : SC) (p0 : Nat) (x1 : Int32) (x2 : Int32) (q0 : Nat) (h : AH) : Run sc n_X6_copyInstruction 4 [aD p0, aI x1, aI x2] none [aD q0] h = bF (getF sc h (aD p0) 8 0) (fun z => Run sc n_X6_copyInstruction 11 [aD p0, aI x1, aI x2] none [z, aI (x1 * (nI 5)), aD q0] h) := by
  refine (s_go mt_X6_copyInstruction dX6_copyInstruction_4 rfl).trans ?_
  refine (s_go mt_X6_copyInstruction dX6_copyInstruction_5 rfl).trans ?_
  refine (s_go mt_X6_copyInstruction dX6_copyInstruction_6 rfl).trans ?_
  refine (s_go mt_X6_copyInstruction dX6_copyInstruction_7 rfl).trans ?_
  exact q_getfield mt_X6_copyInstruction dX6_copyInstruction_8 rfl
theorem e_X6_copyInstruction_11 (sc : SC) (p0 : Nat) (x1 : Int32) (x2 : Int32) (q0 : Nat) (y1 : Int32) (q2 : Nat) (h : AH) : Run sc n_X6_copyInstruction 11 [aD p0, aI x1, aI x2] none [aD q2, aI y1, aD q0] h = bO (copyA sc h (aD q0) y1 q2 (x2 * (nI 5)) (nI 5)) (fun z => Run sc n_X6_copyInstruction 18 [aD p0, aI x1, aI x2] none [] z) := by
  refine (s_go mt_X6_copyInstruction dX6_copyInstruction_11 rfl).trans ?_
  refine (s_go mt_X6_copyInstruction dX6_copyInstruction_12 rfl).trans ?_
  refine (s_go mt_X6_copyInstruction dX6_copyInstruction_13 rfl).trans ?_
  refine (s_go mt_X6_copyInstruction dX6_copyInstruction_14 rfl).trans ?_
  exact q_copy mt_X6_copyInstruction dX6_copyInstruction_15 rfl (Nat.le_of_ble_eq_true rfl)
theorem e_X6_copyInstruction_18 (sc : SC) (p0 : Nat) (x1 : Int32) (x2 : Int32) (h : AH) : Run sc n_X6_copyInstruction 18 [aD p0, aI x1, aI x2] none [] h = some (.inl none, h) := by
  exact q_ret (c := (none, h)) mt_X6_copyInstruction dX6_copyInstruction_18 rfl
/-! BranchSlotFiller$Program.remove(I)V -/
theorem e_X6_remove_0 (sc : SC) (p0 : Nat) (x1 : Int32) (v2 : AV) (v3 : AV) (h : AH) : Run sc n_X6_remove 0 [aD p0, aI x1, v2, v3] none [] h = bF (getF sc h (aD p0) 8 0) (fun z => Run sc n_X6_remove 10 [aD p0, aI x1, aI ((x1 + (nI 1)) * (nI 5)), v3] none [z] h) := by
  refine (s_go mt_X6_remove dX6_remove_0 rfl).trans ?_
  refine (s_go mt_X6_remove dX6_remove_1 rfl).trans ?_
  refine (s_go mt_X6_remove dX6_remove_2 rfl).trans ?_
  refine (s_go mt_X6_remove dX6_remove_3 rfl).trans ?_
  refine (s_go mt_X6_remove dX6_remove_4 rfl).trans ?_
  refine (s_go mt_X6_remove dX6_remove_5 rfl).trans ?_
  refine (s_go mt_X6_remove dX6_remove_6 rfl).trans ?_
  exact q_getfield mt_X6_remove dX6_remove_7 rfl
theorem e_X6_remove_41 (sc : SC) (p0 : Nat) (x1 : Int32) (x2 : Int32) (x3 : Int32) (h : AH) : Run sc n_X6_remove 41 [aD p0, aI x1, aI x2, aI x3] none [] h = bF (getF sc h (aD p0) 8 1) (fun z => Run sc n_X6_remove 46 [aD p0, aI x1, aI x2, aI x3] none [z, aI x3] h) := by
  refine (s_go mt_X6_remove dX6_remove_41 rfl).trans ?_
  refine (s_go mt_X6_remove dX6_remove_42 rfl).trans ?_
  exact q_getfield mt_X6_remove dX6_remove_43 rfl
theorem e_X6_remove_49 (sc : SC) (p0 : Nat) (x1 : Int32) (x2 : Int32) (x3 : Int32) (h : AH) : Run sc n_X6_remove 49 [aD p0, aI x1, aI x2, aI x3] none [] h = bI (rOK sc h (aD p0) 8 = true) (bC (Call sc n_X6_isBranch [aD p0, aI x3] h) (fun v z => Run sc n_X6_remove 54 [aD p0, aI x1, aI x2, aI x3] none (v.toList ++ []) z) (fun E z => some (.inr E, z))) := by
  refine (s_go mt_X6_remove dX6_remove_49 rfl).trans ?_
  refine (s_go mt_X6_remove dX6_remove_50 rfl).trans ?_
  exact q_cV mt_X6_remove dX6_remove_51 rfl mt_X6_isBranch rfl rfl rfl
theorem e_X6_remove_57 (sc : SC) (p0 : Nat) (x1 : Int32) (x2 : Int32) (x3 : Int32) (h : AH) : Run sc n_X6_remove 57 [aD p0, aI x1, aI x2, aI x3] none [] h = bI (rOK sc h (aD p0) 8 = true) (bC (Call sc n_X6_target [aD p0, aI x3] h) (fun v z => Run sc n_X6_remove 62 [aD p0, aI x1, aI x2, aI x3] none (v.toList ++ []) z) (fun E z => some (.inr E, z))) := by
  refine (s_go mt_X6_remove dX6_remove_57 rfl).trans ?_
  refine (s_go mt_X6_remove dX6_remove_58 rfl).trans ?_
  exact q_cV mt_X6_remove dX6_remove_59 rfl mt_X6_target rfl rfl rfl
theorem e_X6_remove_66 (sc : SC) (p0 : Nat) (x1 : Int32) (x2 : Int32) (x3 : Int32) (h : AH) : Run sc n_X6_remove 66 [aD p0, aI x1, aI x2, aI x3] none [] h = bI (rOK sc h (aD p0) 8 = true) (bC (Call sc n_X6_target [aD p0, aI x3] h) (fun v z => Run sc n_X6_remove 74 [aD p0, aI x1, aI x2, aI x3] none (v.toList ++ [aI (nI 3), aI x3, aD p0]) z) (fun E z => some (.inr E, z))) := by
  refine (s_go mt_X6_remove dX6_remove_66 rfl).trans ?_
  refine (s_go mt_X6_remove dX6_remove_67 rfl).trans ?_
  refine (s_go mt_X6_remove dX6_remove_68 rfl).trans ?_
  refine (s_go mt_X6_remove dX6_remove_69 rfl).trans ?_
  refine (s_go mt_X6_remove dX6_remove_70 rfl).trans ?_
  exact q_cV mt_X6_remove dX6_remove_71 rfl mt_X6_target rfl rfl rfl
theorem e_X6_remove_79 (sc : SC) (p0 : Nat) (x1 : Int32) (x2 : Int32) (x3 : Int32) (h : AH) : Run sc n_X6_remove 79 [aD p0, aI x1, aI x2, aI x3] none [] h = Run sc n_X6_remove 41 [aD p0, aI x1, aI x2, aI (x3 + nI 1)] none [] h := by
  refine (s_go mt_X6_remove dX6_remove_79 rfl).trans ?_
  refine (s_go mt_X6_remove dX6_remove_82 rfl).trans ?_
  exact rfl
theorem e_X6_remove_85 (sc : SC) (p0 : Nat) (x1 : Int32) (x2 : Int32) (x3 : Int32) (h : AH) : Run sc n_X6_remove 85 [aD p0, aI x1, aI x2, aI x3] none [] h = some (.inl none, h) := by
  exact q_ret (c := (none, h)) mt_X6_remove dX6_remove_85 rfl
theorem e_X6_remove_10 (sc : SC) (p0 : Nat) (x1 : Int32) (x2 : Int32) (v3 : AV) (q0 : Nat) (h : AH) : Run sc n_X6_remove 10 [aD p0, aI x1, aI x2, v3] none [aD q0] h = bF (getF sc h (aD p0) 8 0) (fun z => Run sc n_X6_remove 15 [aD p0, aI x1, aI x2, v3] none [z, aI x2, aD q0] h) := by
  refine (s_go mt_X6_remove dX6_remove_10 rfl).trans ?_
  refine (s_go mt_X6_remove dX6_remove_11 rfl).trans ?_
  exact q_getfield mt_X6_remove dX6_remove_12 rfl
theorem e_X6_remove_46 (sc : SC) (p0 : Nat) (x1 : Int32) (x2 : Int32) (x3 : Int32) (y0 : Int32) (y1 : Int32) (h : AH) : Run sc n_X6_remove 46 [aD p0, aI x1, aI x2, aI x3] none [aI y1, aI y0] h = Run sc n_X6_remove (if y1 ≤ y0 then 85 else 49) [aD p0, aI x1, aI x2, aI x3] none [] h := by
  exact q_icmp mt_X6_remove dX6_remove_46 (fun _ _ _ _ => rfl) rfl
theorem e_X6_remove_54 (sc : SC) (p0 : Nat) (x1 : Int32) (x2 : Int32) (x3 : Int32) (y0 : Int32) (h : AH) : Run sc n_X6_remove 54 [aD p0, aI x1, aI x2, aI x3] none [aI y0] h = Run sc n_X6_remove (if y0 = 0 then 79 else 57) [aD p0, aI x1, aI x2, aI x3] none [] h := by
  exact q_if mt_X6_remove dX6_remove_54 (fun _ _ _ _ => rfl) rfl
theorem e_X6_remove_62 (sc : SC) (p0 : Nat) (x1 : Int32) (x2 : Int32) (x3 : Int32) (y0 : Int32) (h : AH) : Run sc n_X6_remove 62 [aD p0, aI x1, aI x2, aI x3] none [aI y0] h = Run sc n_X6_remove (if y0 ≤ x1 then 79 else 66) [aD p0, aI x1, aI x2, aI x3] none [] h := by
  refine (s_go mt_X6_remove dX6_remove_62 rfl).trans ?_
  exact q_icmp mt_X6_remove dX6_remove_63 (fun _ _ _ _ => rfl) rfl
theorem e_X6_remove_74 (sc : SC) (p0 : Nat) (x1 : Int32) (x2 : Int32) (x3 : Int32) (q0 : Nat) (y1 : Int32) (y2 : Int32) (y3 : Int32) (h : AH) : Run sc n_X6_remove 74 [aD p0, aI x1, aI x2, aI x3] none [aI y3, aI y2, aI y1, aD q0] h = bI (rOK sc h (aD q0) 8 = true) (bC (Call sc n_X6_put [aD q0, aI y1, aI y2, aI (y3 - (nI 1))] h) (fun v z => Run sc n_X6_remove 79 [aD p0, aI x1, aI x2, aI x3] none (v.toList ++ []) z) (fun E z => some (.inr E, z))) := by
  refine (s_go mt_X6_remove dX6_remove_74 rfl).trans ?_
  refine (s_go mt_X6_remove dX6_remove_75 rfl).trans ?_
  exact q_cV mt_X6_remove dX6_remove_76 rfl mt_X6_put rfl rfl rfl
theorem e_X6_remove_15 (sc : SC) (p0 : Nat) (x1 : Int32) (x2 : Int32) (v3 : AV) (q0 : Nat) (y1 : Int32) (q2 : Nat) (h : AH) : Run sc n_X6_remove 15 [aD p0, aI x1, aI x2, v3] none [aD q2, aI y1, aD q0] h = bF (getF sc h (aD p0) 8 1) (fun z => Run sc n_X6_remove 22 [aD p0, aI x1, aI x2, v3] none [z, aI (x1 * (nI 5)), aD q2, aI y1, aD q0] h) := by
  refine (s_go mt_X6_remove dX6_remove_15 rfl).trans ?_
  refine (s_go mt_X6_remove dX6_remove_16 rfl).trans ?_
  refine (s_go mt_X6_remove dX6_remove_17 rfl).trans ?_
  refine (s_go mt_X6_remove dX6_remove_18 rfl).trans ?_
  exact q_getfield mt_X6_remove dX6_remove_19 rfl
theorem e_X6_remove_22 (sc : SC) (p0 : Nat) (x1 : Int32) (x2 : Int32) (v3 : AV) (q0 : Nat) (y1 : Int32) (q2 : Nat) (y3 : Int32) (y4 : Int32) (h : AH) : Run sc n_X6_remove 22 [aD p0, aI x1, aI x2, v3] none [aI y4, aI y3, aD q2, aI y1, aD q0] h = bO (copyA sc h (aD q0) y1 q2 y3 ((y4 * (nI 5)) - x2)) (fun z => Run sc n_X6_remove 29 [aD p0, aI x1, aI x2, v3] none [] z) := by
  refine (s_go mt_X6_remove dX6_remove_22 rfl).trans ?_
  refine (s_go mt_X6_remove dX6_remove_23 rfl).trans ?_
  refine (s_go mt_X6_remove dX6_remove_24 rfl).trans ?_
  refine (s_go mt_X6_remove dX6_remove_25 rfl).trans ?_
  exact q_copy mt_X6_remove dX6_remove_26 rfl (Nat.le_of_ble_eq_true rfl)
theorem e_X6_remove_29 (sc : SC) (p0 : Nat) (x1 : Int32) (x2 : Int32) (v3 : AV) (h : AH) : Run sc n_X6_remove 29 [aD p0, aI x1, aI x2, v3] none [] h = bF (getF sc h (aD p0) 8 1) (fun z => Run sc n_X6_remove 34 [aD p0, aI x1, aI x2, v3] none [z, aD p0] h) := by
  refine (s_go mt_X6_remove dX6_remove_29 rfl).trans ?_
  refine (s_go mt_X6_remove dX6_remove_30 rfl).trans ?_
  exact q_getfield mt_X6_remove dX6_remove_31 rfl
theorem e_X6_remove_34 (sc : SC) (p0 : Nat) (x1 : Int32) (x2 : Int32) (v3 : AV) (q0 : Nat) (y1 : Int32) (h : AH) : Run sc n_X6_remove 34 [aD p0, aI x1, aI x2, v3] none [aI y1, aD q0] h = bO (putF h q0 8 1 0 (aI (y1 - (nI 1)))) (fun z => Run sc n_X6_remove 39 [aD p0, aI x1, aI x2, v3] none [] z) := by
  refine (s_go mt_X6_remove dX6_remove_34 rfl).trans ?_
  refine (s_go mt_X6_remove dX6_remove_35 rfl).trans ?_
  exact q_putfield mt_X6_remove dX6_remove_36 rfl rfl rfl rfl
theorem e_X6_remove_39 (sc : SC) (p0 : Nat) (x1 : Int32) (x2 : Int32) (v3 : AV) (h : AH) : Run sc n_X6_remove 39 [aD p0, aI x1, aI x2, v3] none [] h = Run sc n_X6_remove 41 [aD p0, aI x1, aI x2, aI (nI 0)] none [] h := by
  refine (s_go mt_X6_remove dX6_remove_39 rfl).trans ?_
  refine (s_go mt_X6_remove dX6_remove_40 rfl).trans ?_
  exact rfl
/-! BranchSlotFiller$TextReader.<init>()V -/
theorem e_X7_init_0 (sc : SC) (p0 : Nat) (h : AH) : Run sc n_X7_init 0 [aD p0] none [] h = bI (¬ ((nI 120) < 0 ∨ 67108864 < (nI 120).toNatClampNeg)) (Run sc n_X7_init 9 [aD p0] none [aD h.1.length, aD p0] (hpush h (oI 1 (nI 120).toNatClampNeg (fun _ => 0)))) := by
  refine (s_go mt_X7_init dX7_init_0 rfl).trans ?_
  refine (s_go mt_X7_init dX7_init_1 rfl).trans ?_
  refine (s_go mt_X7_init dX7_init_4 rfl).trans ?_
  refine (s_go mt_X7_init dX7_init_5 rfl).trans ?_
  exact q_newarray (mk := fun m => oI 1 m (fun _ => 0)) mt_X7_init dX7_init_7 (fun _ => rfl)
theorem e_X7_init_9 (sc : SC) (p0 : Nat) (q0 : Nat) (q1 : Nat) (h : AH) : Run sc n_X7_init 9 [aD p0] none [aD q1, aD q0] h = bO (putF h q0 9 0 3 (aD q1)) (fun z => Run sc n_X7_init 12 [aD p0] none [] z) := by
  exact q_putfield mt_X7_init dX7_init_9 rfl rfl rfl rfl
theorem e_X7_init_12 (sc : SC) (p0 : Nat) (h : AH) : Run sc n_X7_init 12 [aD p0] none [] h = bC (Call sc n_X6_init [aD h.1.length, aI (nI 30)] (hpush h (oO 8 [aN, aI 0]))) (fun v z => Run sc n_X7_init 22 [aD p0] none (v.toList ++ [aD h.1.length, aD p0]) z) (fun _ _ => none) := by
  refine (s_go mt_X7_init dX7_init_12 rfl).trans ?_
  refine (s_go mt_X7_init dX7_init_13 rfl).trans ?_
  refine (s_go mt_X7_init dX7_init_16 rfl).trans ?_
  refine (s_go mt_X7_init dX7_init_17 rfl).trans ?_
  exact q_cI mt_X7_init dX7_init_19 rfl mt_X6_init rfl rfl rfl
theorem e_X7_init_22 (sc : SC) (p0 : Nat) (q0 : Nat) (q1 : Nat) (h : AH) : Run sc n_X7_init 22 [aD p0] none [aD q1, aD q0] h = bO (putF h q0 9 4 3 (aD q1)) (fun z => Run sc n_X7_init 25 [aD p0] none [] z) := by
  exact q_putfield mt_X7_init dX7_init_22 rfl rfl rfl rfl
theorem e_X7_init_25 (sc : SC) (p0 : Nat) (h : AH) : Run sc n_X7_init 25 [aD p0] none [] h = some (.inl none, h) := by
  exact q_ret (c := (none, h)) mt_X7_init dX7_init_25 rfl
/-! BranchSlotFiller$TextReader.takes(C)Z -/
theorem e_X7_takes_0 (sc : SC) (p0 : Nat) (x1 : Int32) (h : AH) : Run sc n_X7_takes 0 [aD p0, aI x1] none [] h = bF (getF sc h (aD p0) 9 1) (fun z => Run sc n_X7_takes 4 [aD p0, aI x1] none [z] h) := by
  refine (s_go mt_X7_takes dX7_takes_0 rfl).trans ?_
  exact q_getfield mt_X7_takes dX7_takes_1 rfl
theorem e_X7_takes_9 (sc : SC) (p0 : Nat) (x1 : Int32) (h : AH) : Run sc n_X7_takes 9 [aD p0, aI x1] none [] h = some (.inl (some (aI (nI 0))), h) := by
  refine (s_go mt_X7_takes dX7_takes_9 rfl).trans ?_
  exact q_ret (c := (some (aI (nI 0)), h)) mt_X7_takes dX7_takes_10 rfl
theorem e_X7_takes_11 (sc : SC) (p0 : Nat) (x1 : Int32) (h : AH) : Run sc n_X7_takes 11 [aD p0, aI x1] none [] h = bF (getF sc h (aD p0) 9 0) (fun z => Run sc n_X7_takes 15 [aD p0, aI x1] none [z] h) := by
  refine (s_go mt_X7_takes dX7_takes_11 rfl).trans ?_
  exact q_getfield mt_X7_takes dX7_takes_12 rfl
theorem e_X7_takes_4 (sc : SC) (p0 : Nat) (x1 : Int32) (y0 : Int32) (h : AH) : Run sc n_X7_takes 4 [aD p0, aI x1] none [aI y0] h = Run sc n_X7_takes (if y0 < (nI 120) then 11 else 9) [aD p0, aI x1] none [] h := by
  refine (s_go mt_X7_takes dX7_takes_4 rfl).trans ?_
  exact q_icmp mt_X7_takes dX7_takes_6 (fun _ _ _ _ => rfl) rfl
theorem e_X7_takes_15 (sc : SC) (p0 : Nat) (x1 : Int32) (q0 : Nat) (h : AH) : Run sc n_X7_takes 15 [aD p0, aI x1] none [aD q0] h = bF (getF sc h (aD p0) 9 1) (fun z => Run sc n_X7_takes 19 [aD p0, aI x1] none [z, aD q0] h) := by
  refine (s_go mt_X7_takes dX7_takes_15 rfl).trans ?_
  exact q_getfield mt_X7_takes dX7_takes_16 rfl
theorem e_X7_takes_19 (sc : SC) (p0 : Nat) (x1 : Int32) (q0 : Nat) (y1 : Int32) (h : AH) : Run sc n_X7_takes 19 [aD p0, aI x1] none [aI y1, aD q0] h = bO (stI h (fun t => t == 1) q0 y1 x1) (fun z => Run sc n_X7_takes 21 [aD p0, aI x1] none [] z) := by
  refine (s_go mt_X7_takes dX7_takes_19 rfl).trans ?_
  exact q_castore mt_X7_takes dX7_takes_20
theorem e_X7_takes_21 (sc : SC) (p0 : Nat) (x1 : Int32) (h : AH) : Run sc n_X7_takes 21 [aD p0, aI x1] none [] h = bF (getF sc h (aD p0) 9 1) (fun z => Run sc n_X7_takes 26 [aD p0, aI x1] none [z, aD p0] h) := by
  refine (s_go mt_X7_takes dX7_takes_21 rfl).trans ?_
  refine (s_go mt_X7_takes dX7_takes_22 rfl).trans ?_
  exact q_getfield mt_X7_takes dX7_takes_23 rfl
theorem e_X7_takes_26 (sc : SC) (p0 : Nat) (x1 : Int32) (q0 : Nat) (y1 : Int32) (h : AH) : Run sc n_X7_takes 26 [aD p0, aI x1] none [aI y1, aD q0] h = bO (putF h q0 9 1 0 (aI (y1 + (nI 1)))) (fun z => Run sc n_X7_takes 31 [aD p0, aI x1] none [] z) := by
  refine (s_go mt_X7_takes dX7_takes_26 rfl).trans ?_
  refine (s_go mt_X7_takes dX7_takes_27 rfl).trans ?_
  exact q_putfield mt_X7_takes dX7_takes_28 rfl rfl rfl rfl
theorem e_X7_takes_31 (sc : SC) (p0 : Nat) (x1 : Int32) (h : AH) : Run sc n_X7_takes 31 [aD p0, aI x1] none [] h = some (.inl (some (aI (nI 1))), h) := by
  refine (s_go mt_X7_takes dX7_takes_31 rfl).trans ?_
  exact q_ret (c := (some (aI (nI 1)), h)) mt_X7_takes dX7_takes_32 rfl
/-! BranchSlotFiller$TextReader.isWord(Ljava/lang/String;II)Z -/
theorem e_X7_isWord_0 (sc : SC) (p0 : Nat) (c1 : Nat) (x2 : Int32) (x3 : Int32) (v4 : AV) (h : AH) : Run sc n_X7_isWord 0 [aD p0, aC c1, aI x2, aI x3, v4] none [] h = bI (rOK sc h (aC c1) 101 = true) (bC (Call sc n_J0_length_8abf5 [aC c1] h) (fun v z => Run sc n_X7_isWord 4 [aD p0, aC c1, aI x2, aI x3, v4] none (v.toList ++ []) z) (fun E z => some (.inr E, z))) := by
  refine (s_go mt_X7_isWord dX7_isWord_0 rfl).trans ?_
  exact q_cV mt_X7_isWord dX7_isWord_1 rfl mt_J0_length_8abf5 rfl rfl rfl
theorem e_X7_isWord_10 (sc : SC) (p0 : Nat) (c1 : Nat) (x2 : Int32) (x3 : Int32) (v4 : AV) (h : AH) : Run sc n_X7_isWord 10 [aD p0, aC c1, aI x2, aI x3, v4] none [] h = some (.inl (some (aI (nI 0))), h) := by
  refine (s_go mt_X7_isWord dX7_isWord_10 rfl).trans ?_
  exact q_ret (c := (some (aI (nI 0)), h)) mt_X7_isWord dX7_isWord_11 rfl
theorem e_X7_isWord_12 (sc : SC) (p0 : Nat) (c1 : Nat) (x2 : Int32) (x3 : Int32) (v4 : AV) (h : AH) : Run sc n_X7_isWord 12 [aD p0, aC c1, aI x2, aI x3, v4] none [] h = Run sc n_X7_isWord 15 [aD p0, aC c1, aI x2, aI x3, aI x2] none [] h := by
  refine (s_go mt_X7_isWord dX7_isWord_12 rfl).trans ?_
  refine (s_go mt_X7_isWord dX7_isWord_13 rfl).trans ?_
  exact rfl
theorem e_X7_isWord_15 (sc : SC) (p0 : Nat) (c1 : Nat) (x2 : Int32) (x3 : Int32) (x4 : Int32) (h : AH) : Run sc n_X7_isWord 15 [aD p0, aC c1, aI x2, aI x3, aI x4] none [] h = Run sc n_X7_isWord (if x3 ≤ x4 then 47 else 21) [aD p0, aC c1, aI x2, aI x3, aI x4] none [] h := by
  refine (s_go mt_X7_isWord dX7_isWord_15 rfl).trans ?_
  refine (s_go mt_X7_isWord dX7_isWord_17 rfl).trans ?_
  exact q_icmp mt_X7_isWord dX7_isWord_18 (fun _ _ _ _ => rfl) rfl
theorem e_X7_isWord_21 (sc : SC) (p0 : Nat) (c1 : Nat) (x2 : Int32) (x3 : Int32) (x4 : Int32) (h : AH) : Run sc n_X7_isWord 21 [aD p0, aC c1, aI x2, aI x3, aI x4] none [] h = bF (getF sc h (aD p0) 9 0) (fun z => Run sc n_X7_isWord 25 [aD p0, aC c1, aI x2, aI x3, aI x4] none [z] h) := by
  refine (s_go mt_X7_isWord dX7_isWord_21 rfl).trans ?_
  exact q_getfield mt_X7_isWord dX7_isWord_22 rfl
theorem e_X7_isWord_39 (sc : SC) (p0 : Nat) (c1 : Nat) (x2 : Int32) (x3 : Int32) (x4 : Int32) (h : AH) : Run sc n_X7_isWord 39 [aD p0, aC c1, aI x2, aI x3, aI x4] none [] h = some (.inl (some (aI (nI 0))), h) := by
  refine (s_go mt_X7_isWord dX7_isWord_39 rfl).trans ?_
  exact q_ret (c := (some (aI (nI 0)), h)) mt_X7_isWord dX7_isWord_40 rfl
theorem e_X7_isWord_41 (sc : SC) (p0 : Nat) (c1 : Nat) (x2 : Int32) (x3 : Int32) (x4 : Int32) (h : AH) : Run sc n_X7_isWord 41 [aD p0, aC c1, aI x2, aI x3, aI x4] none [] h = Run sc n_X7_isWord 15 [aD p0, aC c1, aI x2, aI x3, aI (x4 + nI 1)] none [] h := by
  refine (s_go mt_X7_isWord dX7_isWord_41 rfl).trans ?_
  refine (s_go mt_X7_isWord dX7_isWord_44 rfl).trans ?_
  exact rfl
theorem e_X7_isWord_47 (sc : SC) (p0 : Nat) (c1 : Nat) (x2 : Int32) (x3 : Int32) (x4 : Int32) (h : AH) : Run sc n_X7_isWord 47 [aD p0, aC c1, aI x2, aI x3, aI x4] none [] h = some (.inl (some (aI (nI 1))), h) := by
  refine (s_go mt_X7_isWord dX7_isWord_47 rfl).trans ?_
  exact q_ret (c := (some (aI (nI 1)), h)) mt_X7_isWord dX7_isWord_48 rfl
theorem e_X7_isWord_4 (sc : SC) (p0 : Nat) (c1 : Nat) (x2 : Int32) (x3 : Int32) (v4 : AV) (y0 : Int32) (h : AH) : Run sc n_X7_isWord 4 [aD p0, aC c1, aI x2, aI x3, v4] none [aI y0] h = Run sc n_X7_isWord (if y0 = (x3 - x2) then 12 else 10) [aD p0, aC c1, aI x2, aI x3, v4] none [] h := by
  refine (s_go mt_X7_isWord dX7_isWord_4 rfl).trans ?_
  refine (s_go mt_X7_isWord dX7_isWord_5 rfl).trans ?_
  refine (s_go mt_X7_isWord dX7_isWord_6 rfl).trans ?_
  exact q_icmp mt_X7_isWord dX7_isWord_7 (fun _ _ _ _ => rfl) rfl
theorem e_X7_isWord_25 (sc : SC) (p0 : Nat) (c1 : Nat) (x2 : Int32) (x3 : Int32) (x4 : Int32) (q0 : Nat) (h : AH) : Run sc n_X7_isWord 25 [aD p0, aC c1, aI x2, aI x3, aI x4] none [aD q0] h = bO (ldI sc h (fun t => t == 1) (aD q0) x4) (fun z => Run sc n_X7_isWord 28 [aD p0, aC c1, aI x2, aI x3, aI x4] none [aI z] h) := by
  refine (s_go mt_X7_isWord dX7_isWord_25 rfl).trans ?_
  exact q_caload mt_X7_isWord dX7_isWord_27
theorem e_X7_isWord_28 (sc : SC) (p0 : Nat) (c1 : Nat) (x2 : Int32) (x3 : Int32) (x4 : Int32) (y0 : Int32) (h : AH) : Run sc n_X7_isWord 28 [aD p0, aC c1, aI x2, aI x3, aI x4] none [aI y0] h = bI (rOK sc h (aC c1) 101 = true) (bC (Call sc n_J0_charAt_5068e [aC c1, aI (x4 - x2)] h) (fun v z => Run sc n_X7_isWord 36 [aD p0, aC c1, aI x2, aI x3, aI x4] none (v.toList ++ [aI y0]) z) (fun E z => some (.inr E, z))) := by
  refine (s_go mt_X7_isWord dX7_isWord_28 rfl).trans ?_
  refine (s_go mt_X7_isWord dX7_isWord_29 rfl).trans ?_
  refine (s_go mt_X7_isWord dX7_isWord_31 rfl).trans ?_
  refine (s_go mt_X7_isWord dX7_isWord_32 rfl).trans ?_
  exact q_cV mt_X7_isWord dX7_isWord_33 rfl mt_J0_charAt_5068e rfl rfl rfl
theorem e_X7_isWord_36 (sc : SC) (p0 : Nat) (c1 : Nat) (x2 : Int32) (x3 : Int32) (x4 : Int32) (y0 : Int32) (y1 : Int32) (h : AH) : Run sc n_X7_isWord 36 [aD p0, aC c1, aI x2, aI x3, aI x4] none [aI y1, aI y0] h = Run sc n_X7_isWord (if y0 = y1 then 41 else 39) [aD p0, aC c1, aI x2, aI x3, aI x4] none [] h := by
  exact q_icmp mt_X7_isWord dX7_isWord_36 (fun _ _ _ _ => rfl) rfl
/-! BranchSlotFiller$TextReader.readKind()I -/
theorem e_X7_readKind_0 (sc : SC) (p0 : Nat) (v1 : AV) (v2 : AV) (v3 : AV) (h : AH) : Run sc n_X7_readKind 0 [aD p0, v1, v2, v3] none [] h = bF (getF sc h (aD p0) 9 2) (fun z => Run sc n_X7_readKind 4 [aD p0, v1, v2, v3] none [z] h) := by
  refine (s_go mt_X7_readKind dX7_readKind_0 rfl).trans ?_
  exact q_getfield mt_X7_readKind dX7_readKind_1 rfl
theorem e_X7_readKind_7 (sc : SC) (p0 : Nat) (x1 : Int32) (x2 : Int32) (v3 : AV) (h : AH) : Run sc n_X7_readKind 7 [aD p0, aI x1, aI x2, v3] none [] h = bF (getF sc h (aD p0) 9 1) (fun z => Run sc n_X7_readKind 12 [aD p0, aI x1, aI x2, v3] none [z, aI x2] h) := by
  refine (s_go mt_X7_readKind dX7_readKind_7 rfl).trans ?_
  refine (s_go mt_X7_readKind dX7_readKind_8 rfl).trans ?_
  exact q_getfield mt_X7_readKind dX7_readKind_9 rfl
theorem e_X7_readKind_15 (sc : SC) (p0 : Nat) (x1 : Int32) (x2 : Int32) (v3 : AV) (h : AH) : Run sc n_X7_readKind 15 [aD p0, aI x1, aI x2, v3] none [] h = bF (getF sc h (aD p0) 9 0) (fun z => Run sc n_X7_readKind 19 [aD p0, aI x1, aI x2, v3] none [z] h) := by
  refine (s_go mt_X7_readKind dX7_readKind_15 rfl).trans ?_
  exact q_getfield mt_X7_readKind dX7_readKind_16 rfl
theorem e_X7_readKind_26 (sc : SC) (p0 : Nat) (x1 : Int32) (x2 : Int32) (v3 : AV) (h : AH) : Run sc n_X7_readKind 26 [aD p0, aI x1, aI x2, v3] none [] h = bF (getF sc h (aD p0) 9 0) (fun z => Run sc n_X7_readKind 30 [aD p0, aI x1, aI x2, v3] none [z] h) := by
  refine (s_go mt_X7_readKind dX7_readKind_26 rfl).trans ?_
  exact q_getfield mt_X7_readKind dX7_readKind_27 rfl
theorem e_X7_readKind_37 (sc : SC) (p0 : Nat) (x1 : Int32) (x2 : Int32) (v3 : AV) (h : AH) : Run sc n_X7_readKind 37 [aD p0, aI x1, aI x2, v3] none [] h = Run sc n_X7_readKind 7 [aD p0, aI x1, aI (x2 + nI 1), v3] none [] h := by
  refine (s_go mt_X7_readKind dX7_readKind_37 rfl).trans ?_
  refine (s_go mt_X7_readKind dX7_readKind_40 rfl).trans ?_
  exact rfl
theorem e_X7_readKind_43 (sc : SC) (p0 : Nat) (x1 : Int32) (x2 : Int32) (v3 : AV) (h : AH) : Run sc n_X7_readKind 43 [aD p0, aI x1, aI x2, v3] none [] h = Run sc n_X7_readKind 45 [aD p0, aI x1, aI x2, aI (nI 0)] none [] h := by
  refine (s_go mt_X7_readKind dX7_readKind_43 rfl).trans ?_
  refine (s_go mt_X7_readKind dX7_readKind_44 rfl).trans ?_
  exact rfl
theorem e_X7_readKind_45 (sc : SC) (p0 : Nat) (x1 : Int32) (x2 : Int32) (x3 : Int32) (h : AH) : Run sc n_X7_readKind 45 [aD p0, aI x1, aI x2, aI x3] none [] h = bO (lenA sc h (aC 13)) (fun z => Run sc n_X7_readKind 50 [aD p0, aI x1, aI x2, aI x3] none [aI (nI z), aI x3] h) := by
  refine (s_go mt_X7_readKind dX7_readKind_45 rfl).trans ?_
  refine (s_go mt_X7_readKind dX7_readKind_46 rfl).trans ?_
  exact q_alen mt_X7_readKind dX7_readKind_49
theorem e_X7_readKind_53 (sc : SC) (p0 : Nat) (x1 : Int32) (x2 : Int32) (x3 : Int32) (h : AH) : Run sc n_X7_readKind 53 [aD p0, aI x1, aI x2, aI x3] none [] h = bO (ldR sc h (aC 13) x3) (fun z => Run sc n_X7_readKind 59 [aD p0, aI x1, aI x2, aI x3] none [z, aD p0] h) := by
  refine (s_go mt_X7_readKind dX7_readKind_53 rfl).trans ?_
  refine (s_go mt_X7_readKind dX7_readKind_54 rfl).trans ?_
  refine (s_go mt_X7_readKind dX7_readKind_57 rfl).trans ?_
  exact q_aaload mt_X7_readKind dX7_readKind_58
theorem e_X7_readKind_70 (sc : SC) (p0 : Nat) (x1 : Int32) (x2 : Int32) (x3 : Int32) (h : AH) : Run sc n_X7_readKind 70 [aD p0, aI x1, aI x2, aI x3] none [] h = bO (putF h p0 9 2 0 (aI x2)) (fun z => Run sc n_X7_readKind 75 [aD p0, aI x1, aI x2, aI x3] none [] z) := by
  refine (s_go mt_X7_readKind dX7_readKind_70 rfl).trans ?_
  refine (s_go mt_X7_readKind dX7_readKind_71 rfl).trans ?_
  exact q_putfield mt_X7_readKind dX7_readKind_72 rfl rfl rfl rfl
theorem e_X7_readKind_77 (sc : SC) (p0 : Nat) (x1 : Int32) (x2 : Int32) (x3 : Int32) (h : AH) : Run sc n_X7_readKind 77 [aD p0, aI x1, aI x2, aI x3] none [] h = Run sc n_X7_readKind 45 [aD p0, aI x1, aI x2, aI (x3 + nI 1)] none [] h := by
  refine (s_go mt_X7_readKind dX7_readKind_77 rfl).trans ?_
  refine (s_go mt_X7_readKind dX7_readKind_80 rfl).trans ?_
  exact rfl
theorem e_X7_readKind_83 (sc : SC) (p0 : Nat) (x1 : Int32) (x2 : Int32) (x3 : Int32) (h : AH) : Run sc n_X7_readKind 83 [aD p0, aI x1, aI x2, aI x3] none [] h = some (.inl (some (aI (-1))), h) := by
  refine (s_go mt_X7_readKind dX7_readKind_83 rfl).trans ?_
  exact q_ret (c := (some (aI (-1)), h)) mt_X7_readKind dX7_readKind_84 rfl
theorem e_X7_readKind_4 (sc : SC) (p0 : Nat) (v1 : AV) (v2 : AV) (v3 : AV) (y0 : Int32) (h : AH) : Run sc n_X7_readKind 4 [aD p0, v1, v2, v3] none [aI y0] h = Run sc n_X7_readKind 7 [aD p0, aI y0, aI y0, v3] none [] h := by
  refine (s_go mt_X7_readKind dX7_readKind_4 rfl).trans ?_
  refine (s_go mt_X7_readKind dX7_readKind_5 rfl).trans ?_
  refine (s_go mt_X7_readKind dX7_readKind_6 rfl).trans ?_
  exact rfl
theorem e_X7_readKind_12 (sc : SC) (p0 : Nat) (x1 : Int32) (x2 : Int32) (v3 : AV) (y0 : Int32) (y1 : Int32) (h : AH) : Run sc n_X7_readKind 12 [aD p0, aI x1, aI x2, v3] none [aI y1, aI y0] h = Run sc n_X7_readKind (if y1 ≤ y0 then 43 else 15) [aD p0, aI x1, aI x2, v3] none [] h := by
  exact q_icmp mt_X7_readKind dX7_readKind_12 (fun _ _ _ _ => rfl) rfl
theorem e_X7_readKind_19 (sc : SC) (p0 : Nat) (x1 : Int32) (x2 : Int32) (v3 : AV) (q0 : Nat) (h : AH) : Run sc n_X7_readKind 19 [aD p0, aI x1, aI x2, v3] none [aD q0] h = bO (ldI sc h (fun t => t == 1) (aD q0) x2) (fun z => Run sc n_X7_readKind 21 [aD p0, aI x1, aI x2, v3] none [aI z] h) := by
  refine (s_go mt_X7_readKind dX7_readKind_19 rfl).trans ?_
  exact q_caload mt_X7_readKind dX7_readKind_20
theorem e_X7_readKind_30 (sc : SC) (p0 : Nat) (x1 : Int32) (x2 : Int32) (v3 : AV) (q0 : Nat) (h : AH) : Run sc n_X7_readKind 30 [aD p0, aI x1, aI x2, v3] none [aD q0] h = bO (ldI sc h (fun t => t == 1) (aD q0) x2) (fun z => Run sc n_X7_readKind 32 [aD p0, aI x1, aI x2, v3] none [aI z] h) := by
  refine (s_go mt_X7_readKind dX7_readKind_30 rfl).trans ?_
  exact q_caload mt_X7_readKind dX7_readKind_31
theorem e_X7_readKind_50 (sc : SC) (p0 : Nat) (x1 : Int32) (x2 : Int32) (x3 : Int32) (y0 : Int32) (y1 : Int32) (h : AH) : Run sc n_X7_readKind 50 [aD p0, aI x1, aI x2, aI x3] none [aI y1, aI y0] h = Run sc n_X7_readKind (if y1 ≤ y0 then 83 else 53) [aD p0, aI x1, aI x2, aI x3] none [] h := by
  exact q_icmp mt_X7_readKind dX7_readKind_50 (fun _ _ _ _ => rfl) rfl
theorem e_X7_readKind_59 (sc : SC) (p0 : Nat) (x1 : Int32) (x2 : Int32) (x3 : Int32) (q0 : Nat) (d1 : Nat) (h : AH) : Run sc n_X7_readKind 59 [aD p0, aI x1, aI x2, aI x3] none [aC d1, aD q0] h = bF (getF sc h (aC d1) 100 0) (fun z => Run sc n_X7_readKind 62 [aD p0, aI x1, aI x2, aI x3] none [z, aD q0] h) := by
  exact q_getfield mt_X7_readKind dX7_readKind_59 rfl
theorem e_X7_readKind_75 (sc : SC) (p0 : Nat) (x1 : Int32) (x2 : Int32) (x3 : Int32) (h : AH) : Run sc n_X7_readKind 75 [aD p0, aI x1, aI x2, aI x3] none [] h = some (.inl (some (aI x3)), h) := by
  refine (s_go mt_X7_readKind dX7_readKind_75 rfl).trans ?_
  exact q_ret (c := (some (aI x3), h)) mt_X7_readKind dX7_readKind_76 rfl
theorem e_X7_readKind_21 (sc : SC) (p0 : Nat) (x1 : Int32) (x2 : Int32) (v3 : AV) (y0 : Int32) (h : AH) : Run sc n_X7_readKind 21 [aD p0, aI x1, aI x2, v3] none [aI y0] h = Run sc n_X7_readKind (if y0 < (nI 97) then 43 else 26) [aD p0, aI x1, aI x2, v3] none [] h := by
  refine (s_go mt_X7_readKind dX7_readKind_21 rfl).trans ?_
  exact q_icmp mt_X7_readKind dX7_readKind_23 (fun _ _ _ _ => rfl) rfl
theorem e_X7_readKind_32 (sc : SC) (p0 : Nat) (x1 : Int32) (x2 : Int32) (v3 : AV) (y0 : Int32) (h : AH) : Run sc n_X7_readKind 32 [aD p0, aI x1, aI x2, v3] none [aI y0] h = Run sc n_X7_readKind (if (nI 122) < y0 then 43 else 37) [aD p0, aI x1, aI x2, v3] none [] h := by
  refine (s_go mt_X7_readKind dX7_readKind_32 rfl).trans ?_
  exact q_icmp mt_X7_readKind dX7_readKind_34 (fun _ _ _ _ => rfl) rfl
theorem e_X7_readKind_62 (sc : SC) (p0 : Nat) (x1 : Int32) (x2 : Int32) (x3 : Int32) (q0 : Nat) (d1 : Nat) (h : AH) : Run sc n_X7_readKind 62 [aD p0, aI x1, aI x2, aI x3] none [aC d1, aD q0] h = bI (rOK sc h (aD q0) 9 = true) (bC (Call sc n_X7_isWord [aD q0, aC d1, aI x1, aI x2] h) (fun v z => Run sc n_X7_readKind 67 [aD p0, aI x1, aI x2, aI x3] none (v.toList ++ []) z) (fun E z => some (.inr E, z))) := by
  refine (s_go mt_X7_readKind dX7_readKind_62 rfl).trans ?_
  refine (s_go mt_X7_readKind dX7_readKind_63 rfl).trans ?_
  exact q_cV mt_X7_readKind dX7_readKind_64 rfl mt_X7_isWord rfl rfl rfl
theorem e_X7_readKind_67 (sc : SC) (p0 : Nat) (x1 : Int32) (x2 : Int32) (x3 : Int32) (y0 : Int32) (h : AH) : Run sc n_X7_readKind 67 [aD p0, aI x1, aI x2, aI x3] none [aI y0] h = Run sc n_X7_readKind (if y0 = 0 then 77 else 70) [aD p0, aI x1, aI x2, aI x3] none [] h := by
  exact q_if mt_X7_readKind dX7_readKind_67 (fun _ _ _ _ => rfl) rfl
/-! BranchSlotFiller$TextReader.passes(C)Z -/
theorem e_X7_passes_0 (sc : SC) (p0 : Nat) (x1 : Int32) (h : AH) : Run sc n_X7_passes 0 [aD p0, aI x1] none [] h = bF (getF sc h (aD p0) 9 2) (fun z => Run sc n_X7_passes 4 [aD p0, aI x1] none [z] h) := by
  refine (s_go mt_X7_passes dX7_passes_0 rfl).trans ?_
  exact q_getfield mt_X7_passes dX7_passes_1 rfl
theorem e_X7_passes_11 (sc : SC) (p0 : Nat) (x1 : Int32) (h : AH) : Run sc n_X7_passes 11 [aD p0, aI x1] none [] h = bF (getF sc h (aD p0) 9 0) (fun z => Run sc n_X7_passes 15 [aD p0, aI x1] none [z] h) := by
  refine (s_go mt_X7_passes dX7_passes_11 rfl).trans ?_
  exact q_getfield mt_X7_passes dX7_passes_12 rfl
theorem e_X7_passes_24 (sc : SC) (p0 : Nat) (x1 : Int32) (h : AH) : Run sc n_X7_passes 24 [aD p0, aI x1] none [] h = some (.inl (some (aI (nI 0))), h) := by
  refine (s_go mt_X7_passes dX7_passes_24 rfl).trans ?_
  exact q_ret (c := (some (aI (nI 0)), h)) mt_X7_passes dX7_passes_25 rfl
theorem e_X7_passes_26 (sc : SC) (p0 : Nat) (x1 : Int32) (h : AH) : Run sc n_X7_passes 26 [aD p0, aI x1] none [] h = bF (getF sc h (aD p0) 9 2) (fun z => Run sc n_X7_passes 31 [aD p0, aI x1] none [z, aD p0] h) := by
  refine (s_go mt_X7_passes dX7_passes_26 rfl).trans ?_
  refine (s_go mt_X7_passes dX7_passes_27 rfl).trans ?_
  exact q_getfield mt_X7_passes dX7_passes_28 rfl
theorem e_X7_passes_4 (sc : SC) (p0 : Nat) (x1 : Int32) (y0 : Int32) (h : AH) : Run sc n_X7_passes 4 [aD p0, aI x1] none [aI y0] h = bF (getF sc h (aD p0) 9 1) (fun z => Run sc n_X7_passes 8 [aD p0, aI x1] none [z, aI y0] h) := by
  refine (s_go mt_X7_passes dX7_passes_4 rfl).trans ?_
  exact q_getfield mt_X7_passes dX7_passes_5 rfl
theorem e_X7_passes_15 (sc : SC) (p0 : Nat) (x1 : Int32) (q0 : Nat) (h : AH) : Run sc n_X7_passes 15 [aD p0, aI x1] none [aD q0] h = bF (getF sc h (aD p0) 9 2) (fun z => Run sc n_X7_passes 19 [aD p0, aI x1] none [z, aD q0] h) := by
  refine (s_go mt_X7_passes dX7_passes_15 rfl).trans ?_
  exact q_getfield mt_X7_passes dX7_passes_16 rfl
theorem e_X7_passes_31 (sc : SC) (p0 : Nat) (x1 : Int32) (q0 : Nat) (y1 : Int32) (h : AH) : Run sc n_X7_passes 31 [aD p0, aI x1] none [aI y1, aD q0] h = bO (putF h q0 9 2 0 (aI (y1 + (nI 1)))) (fun z => Run sc n_X7_passes 36 [aD p0, aI x1] none [] z) := by
  refine (s_go mt_X7_passes dX7_passes_31 rfl).trans ?_
  refine (s_go mt_X7_passes dX7_passes_32 rfl).trans ?_
  exact q_putfield mt_X7_passes dX7_passes_33 rfl rfl rfl rfl
theorem e_X7_passes_8 (sc : SC) (p0 : Nat) (x1 : Int32) (y0 : Int32) (y1 : Int32) (h : AH) : Run sc n_X7_passes 8 [aD p0, aI x1] none [aI y1, aI y0] h = Run sc n_X7_passes (if y1 ≤ y0 then 24 else 11) [aD p0, aI x1] none [] h := by
  exact q_icmp mt_X7_passes dX7_passes_8 (fun _ _ _ _ => rfl) rfl
theorem e_X7_passes_19 (sc : SC) (p0 : Nat) (x1 : Int32) (q0 : Nat) (y1 : Int32) (h : AH) : Run sc n_X7_passes 19 [aD p0, aI x1] none [aI y1, aD q0] h = bO (ldI sc h (fun t => t == 1) (aD q0) y1) (fun z => Run sc n_X7_passes 20 [aD p0, aI x1] none [aI z] h) := by
  exact q_caload mt_X7_passes dX7_passes_19
theorem e_X7_passes_36 (sc : SC) (p0 : Nat) (x1 : Int32) (h : AH) : Run sc n_X7_passes 36 [aD p0, aI x1] none [] h = some (.inl (some (aI (nI 1))), h) := by
  refine (s_go mt_X7_passes dX7_passes_36 rfl).trans ?_
  exact q_ret (c := (some (aI (nI 1)), h)) mt_X7_passes dX7_passes_37 rfl
theorem e_X7_passes_20 (sc : SC) (p0 : Nat) (x1 : Int32) (y0 : Int32) (h : AH) : Run sc n_X7_passes 20 [aD p0, aI x1] none [aI y0] h = Run sc n_X7_passes (if y0 = x1 then 26 else 24) [aD p0, aI x1] none [] h := by
  refine (s_go mt_X7_passes dX7_passes_20 rfl).trans ?_
  exact q_icmp mt_X7_passes dX7_passes_21 (fun _ _ _ _ => rfl) rfl
/-! BranchSlotFiller$TextReader.isDigitNext()Z -/
theorem e_X7_isDigitNext_0 (sc : SC) (p0 : Nat) (h : AH) : Run sc n_X7_isDigitNext 0 [aD p0] none [] h = bF (getF sc h (aD p0) 9 2) (fun z => Run sc n_X7_isDigitNext 4 [aD p0] none [z] h) := by
  refine (s_go mt_X7_isDigitNext dX7_isDigitNext_0 rfl).trans ?_
  exact q_getfield mt_X7_isDigitNext dX7_isDigitNext_1 rfl
theorem e_X7_isDigitNext_11 (sc : SC) (p0 : Nat) (h : AH) : Run sc n_X7_isDigitNext 11 [aD p0] none [] h = bF (getF sc h (aD p0) 9 0) (fun z => Run sc n_X7_isDigitNext 15 [aD p0] none [z] h) := by
  refine (s_go mt_X7_isDigitNext dX7_isDigitNext_11 rfl).trans ?_
  exact q_getfield mt_X7_isDigitNext dX7_isDigitNext_12 rfl
theorem e_X7_isDigitNext_25 (sc : SC) (p0 : Nat) (h : AH) : Run sc n_X7_isDigitNext 25 [aD p0] none [] h = bF (getF sc h (aD p0) 9 0) (fun z => Run sc n_X7_isDigitNext 29 [aD p0] none [z] h) := by
  refine (s_go mt_X7_isDigitNext dX7_isDigitNext_25 rfl).trans ?_
  exact q_getfield mt_X7_isDigitNext dX7_isDigitNext_26 rfl
theorem e_X7_isDigitNext_39 (sc : SC) (p0 : Nat) (h : AH) : Run sc n_X7_isDigitNext 39 [aD p0] none [] h = Run sc n_X7_isDigitNext 44 [aD p0] none [aI (nI 1)] h := by
  refine (s_go mt_X7_isDigitNext dX7_isDigitNext_39 rfl).trans ?_
  refine (s_go mt_X7_isDigitNext dX7_isDigitNext_40 rfl).trans ?_
  exact rfl
theorem e_X7_isDigitNext_43 (sc : SC) (p0 : Nat) (h : AH) : Run sc n_X7_isDigitNext 43 [aD p0] none [] h = Run sc n_X7_isDigitNext 44 [aD p0] none [aI (nI 0)] h := by
  refine (s_go mt_X7_isDigitNext dX7_isDigitNext_43 rfl).trans ?_
  exact rfl
theorem e_X7_isDigitNext_44 (sc : SC) (p0 : Nat) (y0 : Int32) (h : AH) : Run sc n_X7_isDigitNext 44 [aD p0] none [aI y0] h = bI (retK (some FieldType.boolean) y0 = true) (some (.inl (some (aI y0)), h)) := by
  exact q_iret mt_X7_isDigitNext dX7_isDigitNext_44
theorem e_X7_isDigitNext_4 (sc : SC) (p0 : Nat) (y0 : Int32) (h : AH) : Run sc n_X7_isDigitNext 4 [aD p0] none [aI y0] h = bF (getF sc h (aD p0) 9 1) (fun z => Run sc n_X7_isDigitNext 8 [aD p0] none [z, aI y0] h) := by
  refine (s_go mt_X7_isDigitNext dX7_isDigitNext_4 rfl).trans ?_
  exact q_getfield mt_X7_isDigitNext dX7_isDigitNext_5 rfl
theorem e_X7_isDigitNext_15 (sc : SC) (p0 : Nat) (q0 : Nat) (h : AH) : Run sc n_X7_isDigitNext 15 [aD p0] none [aD q0] h = bF (getF sc h (aD p0) 9 2) (fun z => Run sc n_X7_isDigitNext 19 [aD p0] none [z, aD q0] h) := by
  refine (s_go mt_X7_isDigitNext dX7_isDigitNext_15 rfl).trans ?_
  exact q_getfield mt_X7_isDigitNext dX7_isDigitNext_16 rfl
theorem e_X7_isDigitNext_29 (sc : SC) (p0 : Nat) (q0 : Nat) (h : AH) : Run sc n_X7_isDigitNext 29 [aD p0] none [aD q0] h = bF (getF sc h (aD p0) 9 2) (fun z => Run sc n_X7_isDigitNext 33 [aD p0] none [z, aD q0] h) := by
  refine (s_go mt_X7_isDigitNext dX7_isDigitNext_29 rfl).trans ?_
  exact q_getfield mt_X7_isDigitNext dX7_isDigitNext_30 rfl
theorem e_X7_isDigitNext_8 (sc : SC) (p0 : Nat) (y0 : Int32) (y1 : Int32) (h : AH) : Run sc n_X7_isDigitNext 8 [aD p0] none [aI y1, aI y0] h = Run sc n_X7_isDigitNext (if y1 ≤ y0 then 43 else 11) [aD p0] none [] h := by
  exact q_icmp mt_X7_isDigitNext dX7_isDigitNext_8 (fun _ _ _ _ => rfl) rfl
theorem e_X7_isDigitNext_19 (sc : SC) (p0 : Nat) (q0 : Nat) (y1 : Int32) (h : AH) : Run sc n_X7_isDigitNext 19 [aD p0] none [aI y1, aD q0] h = bO (ldI sc h (fun t => t == 1) (aD q0) y1) (fun z => Run sc n_X7_isDigitNext 20 [aD p0] none [aI z] h) := by
  exact q_caload mt_X7_isDigitNext dX7_isDigitNext_19
theorem e_X7_isDigitNext_33 (sc : SC) (p0 : Nat) (q0 : Nat) (y1 : Int32) (h : AH) : Run sc n_X7_isDigitNext 33 [aD p0] none [aI y1, aD q0] h = bO (ldI sc h (fun t => t == 1) (aD q0) y1) (fun z => Run sc n_X7_isDigitNext 34 [aD p0] none [aI z] h) := by
  exact q_caload mt_X7_isDigitNext dX7_isDigitNext_33
theorem e_X7_isDigitNext_20 (sc : SC) (p0 : Nat) (y0 : Int32) (h : AH) : Run sc n_X7_isDigitNext 20 [aD p0] none [aI y0] h = Run sc n_X7_isDigitNext (if y0 < (nI 48) then 43 else 25) [aD p0] none [] h := by
  refine (s_go mt_X7_isDigitNext dX7_isDigitNext_20 rfl).trans ?_
  exact q_icmp mt_X7_isDigitNext dX7_isDigitNext_22 (fun _ _ _ _ => rfl) rfl
theorem e_X7_isDigitNext_34 (sc : SC) (p0 : Nat) (y0 : Int32) (h : AH) : Run sc n_X7_isDigitNext 34 [aD p0] none [aI y0] h = Run sc n_X7_isDigitNext (if (nI 57) < y0 then 43 else 39) [aD p0] none [] h := by
  refine (s_go mt_X7_isDigitNext dX7_isDigitNext_34 rfl).trans ?_
  exact q_icmp mt_X7_isDigitNext dX7_isDigitNext_36 (fun _ _ _ _ => rfl) rfl
/-! BranchSlotFiller$TextReader.readsNumber(Z)Z -/
theorem e_X7_readsNumber_0 (sc : SC) (p0 : Nat) (x1 : Int32) (v2 : AV) (v3 : AV) (h : AH) : Run sc n_X7_readsNumber 0 [aD p0, aI x1, v2, v3] none [] h = Run sc n_X7_readsNumber (if x1 = 0 then 17 else 4) [aD p0, aI x1, v2, v3] none [] h := by
  refine (s_go mt_X7_readsNumber dX7_readsNumber_0 rfl).trans ?_
  exact q_if mt_X7_readsNumber dX7_readsNumber_1 (fun _ _ _ _ => rfl) rfl
theorem e_X7_readsNumber_4 (sc : SC) (p0 : Nat) (x1 : Int32) (v2 : AV) (v3 : AV) (h : AH) : Run sc n_X7_readsNumber 4 [aD p0, aI x1, v2, v3] none [] h = bI (rOK sc h (aD p0) 9 = true) (bC (Call sc n_X7_passes [aD p0, aI (nI 45)] h) (fun v z => Run sc n_X7_readsNumber 10 [aD p0, aI x1, v2, v3] none (v.toList ++ []) z) (fun E z => some (.inr E, z))) := by
  refine (s_go mt_X7_readsNumber dX7_readsNumber_4 rfl).trans ?_
  refine (s_go mt_X7_readsNumber dX7_readsNumber_5 rfl).trans ?_
  exact q_cV mt_X7_readsNumber dX7_readsNumber_7 rfl mt_X7_passes rfl rfl rfl
theorem e_X7_readsNumber_13 (sc : SC) (p0 : Nat) (x1 : Int32) (v2 : AV) (v3 : AV) (h : AH) : Run sc n_X7_readsNumber 13 [aD p0, aI x1, v2, v3] none [] h = Run sc n_X7_readsNumber 18 [aD p0, aI x1, v2, v3] none [aI (nI 1)] h := by
  refine (s_go mt_X7_readsNumber dX7_readsNumber_13 rfl).trans ?_
  refine (s_go mt_X7_readsNumber dX7_readsNumber_14 rfl).trans ?_
  exact rfl
theorem e_X7_readsNumber_17 (sc : SC) (p0 : Nat) (x1 : Int32) (v2 : AV) (v3 : AV) (h : AH) : Run sc n_X7_readsNumber 17 [aD p0, aI x1, v2, v3] none [] h = Run sc n_X7_readsNumber 18 [aD p0, aI x1, v2, v3] none [aI (nI 0)] h := by
  refine (s_go mt_X7_readsNumber dX7_readsNumber_17 rfl).trans ?_
  exact rfl
theorem e_X7_readsNumber_18 (sc : SC) (p0 : Nat) (x1 : Int32) (v2 : AV) (v3 : AV) (y0 : Int32) (h : AH) : Run sc n_X7_readsNumber 18 [aD p0, aI x1, v2, v3] none [aI y0] h = bI (rOK sc h (aD p0) 9 = true) (bC (Call sc n_X7_isDigitNext [aD p0] h) (fun v z => Run sc n_X7_readsNumber 23 [aD p0, aI x1, aI y0, v3] none (v.toList ++ []) z) (fun E z => some (.inr E, z))) := by
  refine (s_go mt_X7_readsNumber dX7_readsNumber_18 rfl).trans ?_
  refine (s_go mt_X7_readsNumber dX7_readsNumber_19 rfl).trans ?_
  exact q_cV mt_X7_readsNumber dX7_readsNumber_20 rfl mt_X7_isDigitNext rfl rfl rfl
theorem e_X7_readsNumber_26 (sc : SC) (p0 : Nat) (x1 : Int32) (x2 : Int32) (v3 : AV) (h : AH) : Run sc n_X7_readsNumber 26 [aD p0, aI x1, aI x2, v3] none [] h = some (.inl (some (aI (nI 0))), h) := by
  refine (s_go mt_X7_readsNumber dX7_readsNumber_26 rfl).trans ?_
  exact q_ret (c := (some (aI (nI 0)), h)) mt_X7_readsNumber dX7_readsNumber_27 rfl
theorem e_X7_readsNumber_28 (sc : SC) (p0 : Nat) (x1 : Int32) (x2 : Int32) (v3 : AV) (h : AH) : Run sc n_X7_readsNumber 28 [aD p0, aI x1, aI x2, v3] none [] h = bF (getF sc h (aD p0) 9 0) (fun z => Run sc n_X7_readsNumber 32 [aD p0, aI x1, aI x2, v3] none [z] h) := by
  refine (s_go mt_X7_readsNumber dX7_readsNumber_28 rfl).trans ?_
  exact q_getfield mt_X7_readsNumber dX7_readsNumber_29 rfl
theorem e_X7_readsNumber_58 (sc : SC) (p0 : Nat) (x1 : Int32) (x2 : Int32) (x3 : Int32) (h : AH) : Run sc n_X7_readsNumber 58 [aD p0, aI x1, aI x2, aI x3] none [] h = bF (getF sc h (aD p0) 9 0) (fun z => Run sc n_X7_readsNumber 66 [aD p0, aI x1, aI x2, aI x3] none [z, aI ((nI 10) * x3)] h) := by
  refine (s_go mt_X7_readsNumber dX7_readsNumber_58 rfl).trans ?_
  refine (s_go mt_X7_readsNumber dX7_readsNumber_60 rfl).trans ?_
  refine (s_go mt_X7_readsNumber dX7_readsNumber_61 rfl).trans ?_
  refine (s_go mt_X7_readsNumber dX7_readsNumber_62 rfl).trans ?_
  exact q_getfield mt_X7_readsNumber dX7_readsNumber_63 rfl
theorem e_X7_readsNumber_86 (sc : SC) (p0 : Nat) (x1 : Int32) (x2 : Int32) (x3 : Int32) (h : AH) : Run sc n_X7_readsNumber 86 [aD p0, aI x1, aI x2, aI x3] none [] h = Run sc n_X7_readsNumber (if x2 = 0 then 96 else 91) [aD p0, aI x1, aI x2, aI x3] none [aD p0] h := by
  refine (s_go mt_X7_readsNumber dX7_readsNumber_86 rfl).trans ?_
  refine (s_go mt_X7_readsNumber dX7_readsNumber_87 rfl).trans ?_
  exact q_if mt_X7_readsNumber dX7_readsNumber_88 (fun _ _ _ _ => rfl) rfl
theorem e_X7_readsNumber_91 (sc : SC) (p0 : Nat) (x1 : Int32) (x2 : Int32) (x3 : Int32) (q0 : Nat) (h : AH) : Run sc n_X7_readsNumber 91 [aD p0, aI x1, aI x2, aI x3] none [aD q0] h = Run sc n_X7_readsNumber 97 [aD p0, aI x1, aI x2, aI x3] none [aI (-x3), aD q0] h := by
  refine (s_go mt_X7_readsNumber dX7_readsNumber_91 rfl).trans ?_
  refine (s_go mt_X7_readsNumber dX7_readsNumber_92 rfl).trans ?_
  refine (s_go mt_X7_readsNumber dX7_readsNumber_93 rfl).trans ?_
  exact rfl
theorem e_X7_readsNumber_96 (sc : SC) (p0 : Nat) (x1 : Int32) (x2 : Int32) (x3 : Int32) (q0 : Nat) (h : AH) : Run sc n_X7_readsNumber 96 [aD p0, aI x1, aI x2, aI x3] none [aD q0] h = Run sc n_X7_readsNumber 97 [aD p0, aI x1, aI x2, aI x3] none [aI x3, aD q0] h := by
  refine (s_go mt_X7_readsNumber dX7_readsNumber_96 rfl).trans ?_
  exact rfl
theorem e_X7_readsNumber_97 (sc : SC) (p0 : Nat) (x1 : Int32) (x2 : Int32) (x3 : Int32) (q0 : Nat) (y1 : Int32) (h : AH) : Run sc n_X7_readsNumber 97 [aD p0, aI x1, aI x2, aI x3] none [aI y1, aD q0] h = bO (putF h q0 9 3 0 (aI y1)) (fun z => Run sc n_X7_readsNumber 100 [aD p0, aI x1, aI x2, aI x3] none [] z) := by
  exact q_putfield mt_X7_readsNumber dX7_readsNumber_97 rfl rfl rfl rfl
theorem e_X7_readsNumber_10 (sc : SC) (p0 : Nat) (x1 : Int32) (v2 : AV) (v3 : AV) (y0 : Int32) (h : AH) : Run sc n_X7_readsNumber 10 [aD p0, aI x1, v2, v3] none [aI y0] h = Run sc n_X7_readsNumber (if y0 = 0 then 17 else 13) [aD p0, aI x1, v2, v3] none [] h := by
  exact q_if mt_X7_readsNumber dX7_readsNumber_10 (fun _ _ _ _ => rfl) rfl
theorem e_X7_readsNumber_23 (sc : SC) (p0 : Nat) (x1 : Int32) (x2 : Int32) (v3 : AV) (y0 : Int32) (h : AH) : Run sc n_X7_readsNumber 23 [aD p0, aI x1, aI x2, v3] none [aI y0] h = Run sc n_X7_readsNumber (if ¬ y0 = 0 then 28 else 26) [aD p0, aI x1, aI x2, v3] none [] h := by
  exact q_if mt_X7_readsNumber dX7_readsNumber_23 (fun _ _ _ _ => rfl) rfl
theorem e_X7_readsNumber_32 (sc : SC) (p0 : Nat) (x1 : Int32) (x2 : Int32) (v3 : AV) (q0 : Nat) (h : AH) : Run sc n_X7_readsNumber 32 [aD p0, aI x1, aI x2, v3] none [aD q0] h = bF (getF sc h (aD p0) 9 2) (fun z => Run sc n_X7_readsNumber 36 [aD p0, aI x1, aI x2, v3] none [z, aD q0] h) := by
  refine (s_go mt_X7_readsNumber dX7_readsNumber_32 rfl).trans ?_
  exact q_getfield mt_X7_readsNumber dX7_readsNumber_33 rfl
theorem e_X7_readsNumber_66 (sc : SC) (p0 : Nat) (x1 : Int32) (x2 : Int32) (x3 : Int32) (y0 : Int32) (q1 : Nat) (h : AH) : Run sc n_X7_readsNumber 66 [aD p0, aI x1, aI x2, aI x3] none [aD q1, aI y0] h = bF (getF sc h (aD p0) 9 2) (fun z => Run sc n_X7_readsNumber 70 [aD p0, aI x1, aI x2, aI x3] none [z, aD q1, aI y0] h) := by
  refine (s_go mt_X7_readsNumber dX7_readsNumber_66 rfl).trans ?_
  exact q_getfield mt_X7_readsNumber dX7_readsNumber_67 rfl
theorem e_X7_readsNumber_100 (sc : SC) (p0 : Nat) (x1 : Int32) (x2 : Int32) (x3 : Int32) (h : AH) : Run sc n_X7_readsNumber 100 [aD p0, aI x1, aI x2, aI x3] none [] h = some (.inl (some (aI (nI 1))), h) := by
  refine (s_go mt_X7_readsNumber dX7_readsNumber_100 rfl).trans ?_
  exact q_ret (c := (some (aI (nI 1)), h)) mt_X7_readsNumber dX7_readsNumber_101 rfl
theorem e_X7_readsNumber_36 (sc : SC) (p0 : Nat) (x1 : Int32) (x2 : Int32) (v3 : AV) (q0 : Nat) (y1 : Int32) (h : AH) : Run sc n_X7_readsNumber 36 [aD p0, aI x1, aI x2, v3] none [aI y1, aD q0] h = bO (ldI sc h (fun t => t == 1) (aD q0) y1) (fun z => Run sc n_X7_readsNumber 37 [aD p0, aI x1, aI x2, v3] none [aI z] h) := by
  exact q_caload mt_X7_readsNumber dX7_readsNumber_36
theorem e_X7_readsNumber_70 (sc : SC) (p0 : Nat) (x1 : Int32) (x2 : Int32) (x3 : Int32) (y0 : Int32) (q1 : Nat) (y2 : Int32) (h : AH) : Run sc n_X7_readsNumber 70 [aD p0, aI x1, aI x2, aI x3] none [aI y2, aD q1, aI y0] h = bO (ldI sc h (fun t => t == 1) (aD q1) y2) (fun z => Run sc n_X7_readsNumber 71 [aD p0, aI x1, aI x2, aI x3] none [aI z, aI y0] h) := by
  exact q_caload mt_X7_readsNumber dX7_readsNumber_70
theorem e_X7_readsNumber_37 (sc : SC) (p0 : Nat) (x1 : Int32) (x2 : Int32) (v3 : AV) (y0 : Int32) (h : AH) : Run sc n_X7_readsNumber 37 [aD p0, aI x1, aI x2, v3] none [aI y0] h = bF (getF sc h (aD p0) 9 2) (fun z => Run sc n_X7_readsNumber 46 [aD p0, aI x1, aI x2, aI (y0 - (nI 48))] none [z, aD p0] h) := by
  refine (s_go mt_X7_readsNumber dX7_readsNumber_37 rfl).trans ?_
  refine (s_go mt_X7_readsNumber dX7_readsNumber_39 rfl).trans ?_
  refine (s_go mt_X7_readsNumber dX7_readsNumber_40 rfl).trans ?_
  refine (s_go mt_X7_readsNumber dX7_readsNumber_41 rfl).trans ?_
  refine (s_go mt_X7_readsNumber dX7_readsNumber_42 rfl).trans ?_
  exact q_getfield mt_X7_readsNumber dX7_readsNumber_43 rfl
theorem e_X7_readsNumber_71 (sc : SC) (p0 : Nat) (x1 : Int32) (x2 : Int32) (x3 : Int32) (y0 : Int32) (y1 : Int32) (h : AH) : Run sc n_X7_readsNumber 71 [aD p0, aI x1, aI x2, aI x3] none [aI y1, aI y0] h = bF (getF sc h (aD p0) 9 2) (fun z => Run sc n_X7_readsNumber 81 [aD p0, aI x1, aI x2, aI ((y0 + y1) - (nI 48))] none [z, aD p0] h) := by
  refine (s_go mt_X7_readsNumber dX7_readsNumber_71 rfl).trans ?_
  refine (s_go mt_X7_readsNumber dX7_readsNumber_72 rfl).trans ?_
  refine (s_go mt_X7_readsNumber dX7_readsNumber_74 rfl).trans ?_
  refine (s_go mt_X7_readsNumber dX7_readsNumber_75 rfl).trans ?_
  refine (s_go mt_X7_readsNumber dX7_readsNumber_76 rfl).trans ?_
  refine (s_go mt_X7_readsNumber dX7_readsNumber_77 rfl).trans ?_
  exact q_getfield mt_X7_readsNumber dX7_readsNumber_78 rfl
theorem e_X7_readsNumber_46 (sc : SC) (p0 : Nat) (x1 : Int32) (x2 : Int32) (x3 : Int32) (q0 : Nat) (y1 : Int32) (h : AH) : Run sc n_X7_readsNumber 46 [aD p0, aI x1, aI x2, aI x3] none [aI y1, aD q0] h = bO (putF h q0 9 2 0 (aI (y1 + (nI 1)))) (fun z => Run sc n_X7_readsNumber 51 [aD p0, aI x1, aI x2, aI x3] none [] z) := by
  refine (s_go mt_X7_readsNumber dX7_readsNumber_46 rfl).trans ?_
  refine (s_go mt_X7_readsNumber dX7_readsNumber_47 rfl).trans ?_
  exact q_putfield mt_X7_readsNumber dX7_readsNumber_48 rfl rfl rfl rfl
theorem e_X7_readsNumber_81 (sc : SC) (p0 : Nat) (x1 : Int32) (x2 : Int32) (x3 : Int32) (q0 : Nat) (y1 : Int32) (h : AH) : Run sc n_X7_readsNumber 81 [aD p0, aI x1, aI x2, aI x3] none [aI y1, aD q0] h = bO (putF h q0 9 2 0 (aI (y1 + (nI 1)))) (fun z => Run sc n_X7_readsNumber 86 [aD p0, aI x1, aI x2, aI x3] none [] z) := by
  refine (s_go mt_X7_readsNumber dX7_readsNumber_81 rfl).trans ?_
  refine (s_go mt_X7_readsNumber dX7_readsNumber_82 rfl).trans ?_
  exact q_putfield mt_X7_readsNumber dX7_readsNumber_83 rfl rfl rfl rfl
theorem e_X7_readsNumber_51 (sc : SC) (p0 : Nat) (x1 : Int32) (x2 : Int32) (x3 : Int32) (h : AH) : Run sc n_X7_readsNumber 51 [aD p0, aI x1, aI x2, aI x3] none [] h = bI (rOK sc h (aD p0) 9 = true) (bC (Call sc n_X7_isDigitNext [aD p0] h) (fun v z => Run sc n_X7_readsNumber 55 [aD p0, aI x1, aI x2, aI x3] none (v.toList ++ []) z) (fun E z => some (.inr E, z))) := by
  refine (s_go mt_X7_readsNumber dX7_readsNumber_51 rfl).trans ?_
  exact q_cV mt_X7_readsNumber dX7_readsNumber_52 rfl mt_X7_isDigitNext rfl rfl rfl
theorem e_X7_readsNumber_55 (sc : SC) (p0 : Nat) (x1 : Int32) (x2 : Int32) (x3 : Int32) (y0 : Int32) (h : AH) : Run sc n_X7_readsNumber 55 [aD p0, aI x1, aI x2, aI x3] none [aI y0] h = Run sc n_X7_readsNumber (if y0 = 0 then 86 else 58) [aD p0, aI x1, aI x2, aI x3] none [] h := by
  exact q_if mt_X7_readsNumber dX7_readsNumber_55 (fun _ _ _ _ => rfl) rfl
/-! BranchSlotFiller$TextReader.readsInstruction()Z -/
theorem e_X7_readsInstruction_0 (sc : SC) (p0 : Nat) (v1 : AV) (v2 : AV) (v3 : AV) (v4 : AV) (h : AH) : Run sc n_X7_readsInstruction 0 [aD p0, v1, v2, v3, v4] none [] h = bI (rOK sc h (aD p0) 9 = true) (bC (Call sc n_X7_readKind [aD p0] h) (fun v z => Run sc n_X7_readsInstruction 4 [aD p0, v1, v2, v3, v4] none (v.toList ++ []) z) (fun E z => some (.inr E, z))) := by
  refine (s_go mt_X7_readsInstruction dX7_readsInstruction_0 rfl).trans ?_
  exact q_cV mt_X7_readsInstruction dX7_readsInstruction_1 rfl mt_X7_readKind rfl rfl rfl
theorem e_X7_readsInstruction_10 (sc : SC) (p0 : Nat) (x1 : Int32) (v2 : AV) (v3 : AV) (v4 : AV) (h : AH) : Run sc n_X7_readsInstruction 10 [aD p0, aI x1, v2, v3, v4] none [] h = bF (getF sc h (aD p0) 9 4) (fun z => Run sc n_X7_readsInstruction 14 [aD p0, aI x1, v2, v3, v4] none [z] h) := by
  refine (s_go mt_X7_readsInstruction dX7_readsInstruction_10 rfl).trans ?_
  exact q_getfield mt_X7_readsInstruction dX7_readsInstruction_11 rfl
theorem e_X7_readsInstruction_22 (sc : SC) (p0 : Nat) (x1 : Int32) (v2 : AV) (v3 : AV) (v4 : AV) (h : AH) : Run sc n_X7_readsInstruction 22 [aD p0, aI x1, v2, v3, v4] none [] h = some (.inl (some (aI (nI 0))), h) := by
  refine (s_go mt_X7_readsInstruction dX7_readsInstruction_22 rfl).trans ?_
  exact q_ret (c := (some (aI (nI 0)), h)) mt_X7_readsInstruction dX7_readsInstruction_23 rfl
theorem e_X7_readsInstruction_24 (sc : SC) (p0 : Nat) (x1 : Int32) (v2 : AV) (v3 : AV) (v4 : AV) (h : AH) : Run sc n_X7_readsInstruction 24 [aD p0, aI x1, v2, v3, v4] none [] h = bF (getF sc h (aD p0) 9 4) (fun z => Run sc n_X7_readsInstruction 28 [aD p0, aI x1, v2, v3, v4] none [z] h) := by
  refine (s_go mt_X7_readsInstruction dX7_readsInstruction_24 rfl).trans ?_
  exact q_getfield mt_X7_readsInstruction dX7_readsInstruction_25 rfl
theorem e_X7_readsInstruction_35 (sc : SC) (p0 : Nat) (x1 : Int32) (x2 : Int32) (x3 : Int32) (v4 : AV) (h : AH) : Run sc n_X7_readsInstruction 35 [aD p0, aI x1, aI x2, aI x3, v4] none [] h = Run sc n_X7_readsInstruction (if (nI 3) ≤ x3 then 112 else 40) [aD p0, aI x1, aI x2, aI x3, v4] none [] h := by
  refine (s_go mt_X7_readsInstruction dX7_readsInstruction_35 rfl).trans ?_
  refine (s_go mt_X7_readsInstruction dX7_readsInstruction_36 rfl).trans ?_
  exact q_icmp mt_X7_readsInstruction dX7_readsInstruction_37 (fun _ _ _ _ => rfl) rfl
theorem e_X7_readsInstruction_40 (sc : SC) (p0 : Nat) (x1 : Int32) (x2 : Int32) (x3 : Int32) (v4 : AV) (h : AH) : Run sc n_X7_readsInstruction 40 [aD p0, aI x1, aI x2, aI x3, v4] none [] h = bO (ldR sc h (aC 13) x1) (fun z => Run sc n_X7_readsInstruction 45 [aD p0, aI x1, aI x2, aI x3, v4] none [z] h) := by
  refine (s_go mt_X7_readsInstruction dX7_readsInstruction_40 rfl).trans ?_
  refine (s_go mt_X7_readsInstruction dX7_readsInstruction_43 rfl).trans ?_
  exact q_aaload mt_X7_readsInstruction dX7_readsInstruction_44
theorem e_X7_readsInstruction_58 (sc : SC) (p0 : Nat) (x1 : Int32) (x2 : Int32) (x3 : Int32) (x4 : Int32) (h : AH) : Run sc n_X7_readsInstruction 58 [aD p0, aI x1, aI x2, aI x3, aI x4] none [] h = Run sc n_X7_readsInstruction 106 [aD p0, aI x1, aI x2, aI x3, aI x4] none [] h := by
  refine (s_go mt_X7_readsInstruction dX7_readsInstruction_58 rfl).trans ?_
  exact rfl
theorem e_X7_readsInstruction_61 (sc : SC) (p0 : Nat) (x1 : Int32) (x2 : Int32) (x3 : Int32) (x4 : Int32) (h : AH) : Run sc n_X7_readsInstruction 61 [aD p0, aI x1, aI x2, aI x3, aI x4] none [] h = bI (rOK sc h (aD p0) 9 = true) (bC (Call sc n_X7_passes [aD p0, aI (nI 32)] h) (fun v z => Run sc n_X7_readsInstruction 67 [aD p0, aI x1, aI x2, aI x3, aI x4] none (v.toList ++ []) z) (fun E z => some (.inr E, z))) := by
  refine (s_go mt_X7_readsInstruction dX7_readsInstruction_61 rfl).trans ?_
  refine (s_go mt_X7_readsInstruction dX7_readsInstruction_62 rfl).trans ?_
  exact q_cV mt_X7_readsInstruction dX7_readsInstruction_64 rfl mt_X7_passes rfl rfl rfl
theorem e_X7_readsInstruction_70 (sc : SC) (p0 : Nat) (x1 : Int32) (x2 : Int32) (x3 : Int32) (x4 : Int32) (h : AH) : Run sc n_X7_readsInstruction 70 [aD p0, aI x1, aI x2, aI x3, aI x4] none [] h = Run sc n_X7_readsInstruction (if ¬ x4 = (nI 110) then 82 else 78) [aD p0, aI x1, aI x2, aI x3, aI x4] none [aD p0] h := by
  refine (s_go mt_X7_readsInstruction dX7_readsInstruction_70 rfl).trans ?_
  refine (s_go mt_X7_readsInstruction dX7_readsInstruction_71 rfl).trans ?_
  refine (s_go mt_X7_readsInstruction dX7_readsInstruction_73 rfl).trans ?_
  exact q_icmp mt_X7_readsInstruction dX7_readsInstruction_75 (fun _ _ _ _ => rfl) rfl
theorem e_X7_readsInstruction_78 (sc : SC) (p0 : Nat) (x1 : Int32) (x2 : Int32) (x3 : Int32) (x4 : Int32) (q0 : Nat) (h : AH) : Run sc n_X7_readsInstruction 78 [aD p0, aI x1, aI x2, aI x3, aI x4] none [aD q0] h = Run sc n_X7_readsInstruction 83 [aD p0, aI x1, aI x2, aI x3, aI x4] none [aI (nI 1), aD q0] h := by
  refine (s_go mt_X7_readsInstruction dX7_readsInstruction_78 rfl).trans ?_
  refine (s_go mt_X7_readsInstruction dX7_readsInstruction_79 rfl).trans ?_
  exact rfl
theorem e_X7_readsInstruction_82 (sc : SC) (p0 : Nat) (x1 : Int32) (x2 : Int32) (x3 : Int32) (x4 : Int32) (q0 : Nat) (h : AH) : Run sc n_X7_readsInstruction 82 [aD p0, aI x1, aI x2, aI x3, aI x4] none [aD q0] h = Run sc n_X7_readsInstruction 83 [aD p0, aI x1, aI x2, aI x3, aI x4] none [aI (nI 0), aD q0] h := by
  refine (s_go mt_X7_readsInstruction dX7_readsInstruction_82 rfl).trans ?_
  exact rfl
theorem e_X7_readsInstruction_83 (sc : SC) (p0 : Nat) (x1 : Int32) (x2 : Int32) (x3 : Int32) (x4 : Int32) (q0 : Nat) (y1 : Int32) (h : AH) : Run sc n_X7_readsInstruction 83 [aD p0, aI x1, aI x2, aI x3, aI x4] none [aI y1, aD q0] h = bI (rOK sc h (aD q0) 9 = true) (bC (Call sc n_X7_readsNumber [aD q0, aI y1] h) (fun v z => Run sc n_X7_readsInstruction 86 [aD p0, aI x1, aI x2, aI x3, aI x4] none (v.toList ++ []) z) (fun E z => some (.inr E, z))) := by
  exact q_cV mt_X7_readsInstruction dX7_readsInstruction_83 rfl mt_X7_readsNumber rfl rfl rfl
theorem e_X7_readsInstruction_89 (sc : SC) (p0 : Nat) (x1 : Int32) (x2 : Int32) (x3 : Int32) (x4 : Int32) (h : AH) : Run sc n_X7_readsInstruction 89 [aD p0, aI x1, aI x2, aI x3, aI x4] none [] h = some (.inl (some (aI (nI 0))), h) := by
  refine (s_go mt_X7_readsInstruction dX7_readsInstruction_89 rfl).trans ?_
  exact q_ret (c := (some (aI (nI 0)), h)) mt_X7_readsInstruction dX7_readsInstruction_90 rfl
theorem e_X7_readsInstruction_91 (sc : SC) (p0 : Nat) (x1 : Int32) (x2 : Int32) (x3 : Int32) (x4 : Int32) (h : AH) : Run sc n_X7_readsInstruction 91 [aD p0, aI x1, aI x2, aI x3, aI x4] none [] h = bF (getF sc h (aD p0) 9 4) (fun z => Run sc n_X7_readsInstruction 95 [aD p0, aI x1, aI x2, aI x3, aI x4] none [z] h) := by
  refine (s_go mt_X7_readsInstruction dX7_readsInstruction_91 rfl).trans ?_
  exact q_getfield mt_X7_readsInstruction dX7_readsInstruction_92 rfl
theorem e_X7_readsInstruction_106 (sc : SC) (p0 : Nat) (x1 : Int32) (x2 : Int32) (x3 : Int32) (x4 : Int32) (h : AH) : Run sc n_X7_readsInstruction 106 [aD p0, aI x1, aI x2, aI x3, aI x4] none [] h = Run sc n_X7_readsInstruction 35 [aD p0, aI x1, aI x2, aI (x3 + nI 1), aI x4] none [] h := by
  refine (s_go mt_X7_readsInstruction dX7_readsInstruction_106 rfl).trans ?_
  refine (s_go mt_X7_readsInstruction dX7_readsInstruction_109 rfl).trans ?_
  exact rfl
theorem e_X7_readsInstruction_112 (sc : SC) (p0 : Nat) (x1 : Int32) (x2 : Int32) (x3 : Int32) (v4 : AV) (h : AH) : Run sc n_X7_readsInstruction 112 [aD p0, aI x1, aI x2, aI x3, v4] none [] h = some (.inl (some (aI (nI 1))), h) := by
  refine (s_go mt_X7_readsInstruction dX7_readsInstruction_112 rfl).trans ?_
  exact q_ret (c := (some (aI (nI 1)), h)) mt_X7_readsInstruction dX7_readsInstruction_113 rfl
theorem e_X7_readsInstruction_4 (sc : SC) (p0 : Nat) (v1 : AV) (v2 : AV) (v3 : AV) (v4 : AV) (y0 : Int32) (h : AH) : Run sc n_X7_readsInstruction 4 [aD p0, v1, v2, v3, v4] none [aI y0] h = Run sc n_X7_readsInstruction (if y0 = (-1) then 22 else 10) [aD p0, aI y0, v2, v3, v4] none [] h := by
  refine (s_go mt_X7_readsInstruction dX7_readsInstruction_4 rfl).trans ?_
  refine (s_go mt_X7_readsInstruction dX7_readsInstruction_5 rfl).trans ?_
  refine (s_go mt_X7_readsInstruction dX7_readsInstruction_6 rfl).trans ?_
  exact q_icmp mt_X7_readsInstruction dX7_readsInstruction_7 (fun _ _ _ _ => rfl) rfl
theorem e_X7_readsInstruction_14 (sc : SC) (p0 : Nat) (x1 : Int32) (v2 : AV) (v3 : AV) (v4 : AV) (q0 : Nat) (h : AH) : Run sc n_X7_readsInstruction 14 [aD p0, aI x1, v2, v3, v4] none [aD q0] h = bF (getF sc h (aD q0) 8 1) (fun z => Run sc n_X7_readsInstruction 17 [aD p0, aI x1, v2, v3, v4] none [z] h) := by
  exact q_getfield mt_X7_readsInstruction dX7_readsInstruction_14 rfl
theorem e_X7_readsInstruction_28 (sc : SC) (p0 : Nat) (x1 : Int32) (v2 : AV) (v3 : AV) (v4 : AV) (q0 : Nat) (h : AH) : Run sc n_X7_readsInstruction 28 [aD p0, aI x1, v2, v3, v4] none [aD q0] h = bI (rOK sc h (aD q0) 8 = true) (bC (Call sc n_X6_appendKind [aD q0, aI x1] h) (fun v z => Run sc n_X7_readsInstruction 32 [aD p0, aI x1, v2, v3, v4] none (v.toList ++ []) z) (fun E z => some (.inr E, z))) := by
  refine (s_go mt_X7_readsInstruction dX7_readsInstruction_28 rfl).trans ?_
  exact q_cV mt_X7_readsInstruction dX7_readsInstruction_29 rfl mt_X6_appendKind rfl rfl rfl
theorem e_X7_readsInstruction_45 (sc : SC) (p0 : Nat) (x1 : Int32) (x2 : Int32) (x3 : Int32) (v4 : AV) (d0 : Nat) (h : AH) : Run sc n_X7_readsInstruction 45 [aD p0, aI x1, aI x2, aI x3, v4] none [aC d0] h = bI (rOK sc h (aC d0) 100 = true) (bC (Call sc n_X4_sign [aC d0, aI x3] h) (fun v z => Run sc n_X7_readsInstruction 49 [aD p0, aI x1, aI x2, aI x3, v4] none (v.toList ++ []) z) (fun E z => some (.inr E, z))) := by
  refine (s_go mt_X7_readsInstruction dX7_readsInstruction_45 rfl).trans ?_
  exact q_cV mt_X7_readsInstruction dX7_readsInstruction_46 rfl mt_X4_sign rfl rfl rfl
theorem e_X7_readsInstruction_67 (sc : SC) (p0 : Nat) (x1 : Int32) (x2 : Int32) (x3 : Int32) (x4 : Int32) (y0 : Int32) (h : AH) : Run sc n_X7_readsInstruction 67 [aD p0, aI x1, aI x2, aI x3, aI x4] none [aI y0] h = Run sc n_X7_readsInstruction (if y0 = 0 then 89 else 70) [aD p0, aI x1, aI x2, aI x3, aI x4] none [] h := by
  exact q_if mt_X7_readsInstruction dX7_readsInstruction_67 (fun _ _ _ _ => rfl) rfl
theorem e_X7_readsInstruction_86 (sc : SC) (p0 : Nat) (x1 : Int32) (x2 : Int32) (x3 : Int32) (x4 : Int32) (y0 : Int32) (h : AH) : Run sc n_X7_readsInstruction 86 [aD p0, aI x1, aI x2, aI x3, aI x4] none [aI y0] h = Run sc n_X7_readsInstruction (if ¬ y0 = 0 then 91 else 89) [aD p0, aI x1, aI x2, aI x3, aI x4] none [] h := by
  exact q_if mt_X7_readsInstruction dX7_readsInstruction_86 (fun _ _ _ _ => rfl) rfl
theorem e_X7_readsInstruction_95 (sc : SC) (p0 : Nat) (x1 : Int32) (x2 : Int32) (x3 : Int32) (x4 : Int32) (q0 : Nat) (h : AH) : Run sc n_X7_readsInstruction 95 [aD p0, aI x1, aI x2, aI x3, aI x4] none [aD q0] h = bF (getF sc h (aD p0) 9 3) (fun z => Run sc n_X7_readsInstruction 103 [aD p0, aI x1, aI x2, aI x3, aI x4] none [z, aI ((nI 1) + x3), aI x2, aD q0] h) := by
  refine (s_go mt_X7_readsInstruction dX7_readsInstruction_95 rfl).trans ?_
  refine (s_go mt_X7_readsInstruction dX7_readsInstruction_96 rfl).trans ?_
  refine (s_go mt_X7_readsInstruction dX7_readsInstruction_97 rfl).trans ?_
  refine (s_go mt_X7_readsInstruction dX7_readsInstruction_98 rfl).trans ?_
  refine (s_go mt_X7_readsInstruction dX7_readsInstruction_99 rfl).trans ?_
  exact q_getfield mt_X7_readsInstruction dX7_readsInstruction_100 rfl
theorem e_X7_readsInstruction_17 (sc : SC) (p0 : Nat) (x1 : Int32) (v2 : AV) (v3 : AV) (v4 : AV) (y0 : Int32) (h : AH) : Run sc n_X7_readsInstruction 17 [aD p0, aI x1, v2, v3, v4] none [aI y0] h = Run sc n_X7_readsInstruction (if y0 < (nI 30) then 24 else 22) [aD p0, aI x1, v2, v3, v4] none [] h := by
  refine (s_go mt_X7_readsInstruction dX7_readsInstruction_17 rfl).trans ?_
  exact q_icmp mt_X7_readsInstruction dX7_readsInstruction_19 (fun _ _ _ _ => rfl) rfl
theorem e_X7_readsInstruction_32 (sc : SC) (p0 : Nat) (x1 : Int32) (v2 : AV) (v3 : AV) (v4 : AV) (y0 : Int32) (h : AH) : Run sc n_X7_readsInstruction 32 [aD p0, aI x1, v2, v3, v4] none [aI y0] h = Run sc n_X7_readsInstruction 35 [aD p0, aI x1, aI y0, aI (nI 0), v4] none [] h := by
  refine (s_go mt_X7_readsInstruction dX7_readsInstruction_32 rfl).trans ?_
  refine (s_go mt_X7_readsInstruction dX7_readsInstruction_33 rfl).trans ?_
  refine (s_go mt_X7_readsInstruction dX7_readsInstruction_34 rfl).trans ?_
  exact rfl
theorem e_X7_readsInstruction_49 (sc : SC) (p0 : Nat) (x1 : Int32) (x2 : Int32) (x3 : Int32) (v4 : AV) (y0 : Int32) (h : AH) : Run sc n_X7_readsInstruction 49 [aD p0, aI x1, aI x2, aI x3, v4] none [aI y0] h = Run sc n_X7_readsInstruction (if ¬ y0 = (nI 45) then 61 else 58) [aD p0, aI x1, aI x2, aI x3, aI y0] none [] h := by
  refine (s_go mt_X7_readsInstruction dX7_readsInstruction_49 rfl).trans ?_
  refine (s_go mt_X7_readsInstruction dX7_readsInstruction_51 rfl).trans ?_
  refine (s_go mt_X7_readsInstruction dX7_readsInstruction_53 rfl).trans ?_
  exact q_icmp mt_X7_readsInstruction dX7_readsInstruction_55 (fun _ _ _ _ => rfl) rfl
theorem e_X7_readsInstruction_103 (sc : SC) (p0 : Nat) (x1 : Int32) (x2 : Int32) (x3 : Int32) (x4 : Int32) (q0 : Nat) (y1 : Int32) (y2 : Int32) (y3 : Int32) (h : AH) : Run sc n_X7_readsInstruction 103 [aD p0, aI x1, aI x2, aI x3, aI x4] none [aI y3, aI y2, aI y1, aD q0] h = bI (rOK sc h (aD q0) 8 = true) (bC (Call sc n_X6_put [aD q0, aI y1, aI y2, aI y3] h) (fun v z => Run sc n_X7_readsInstruction 106 [aD p0, aI x1, aI x2, aI x3, aI x4] none (v.toList ++ []) z) (fun E z => some (.inr E, z))) := by
  exact q_cV mt_X7_readsInstruction dX7_readsInstruction_103 rfl mt_X6_put rfl rfl rfl
/-! BranchSlotFiller$TextReader.readsText()Z -/
theorem e_X7_readsText_0 (sc : SC) (p0 : Nat) (v1 : AV) (v2 : AV) (h : AH) : Run sc n_X7_readsText 0 [aD p0, v1, v2] none [] h = bO (putF h p0 9 2 0 (aI (nI 0))) (fun z => Run sc n_X7_readsText 5 [aD p0, v1, v2] none [] z) := by
  refine (s_go mt_X7_readsText dX7_readsText_0 rfl).trans ?_
  refine (s_go mt_X7_readsText dX7_readsText_1 rfl).trans ?_
  exact q_putfield mt_X7_readsText dX7_readsText_2 rfl rfl rfl rfl
theorem e_X7_readsText_20 (sc : SC) (p0 : Nat) (v1 : AV) (v2 : AV) (h : AH) : Run sc n_X7_readsText 20 [aD p0, v1, v2] none [] h = bI (rOK sc h (aD p0) 9 = true) (bC (Call sc n_X7_readsInstruction [aD p0] h) (fun v z => Run sc n_X7_readsText 24 [aD p0, v1, v2] none (v.toList ++ []) z) (fun E z => some (.inr E, z))) := by
  refine (s_go mt_X7_readsText dX7_readsText_20 rfl).trans ?_
  exact q_cV mt_X7_readsText dX7_readsText_21 rfl mt_X7_readsInstruction rfl rfl rfl
theorem e_X7_readsText_27 (sc : SC) (p0 : Nat) (v1 : AV) (v2 : AV) (h : AH) : Run sc n_X7_readsText 27 [aD p0, v1, v2] none [] h = Run sc n_X7_readsText 32 [aD p0, v1, v2] none [aI (nI 1)] h := by
  refine (s_go mt_X7_readsText dX7_readsText_27 rfl).trans ?_
  refine (s_go mt_X7_readsText dX7_readsText_28 rfl).trans ?_
  exact rfl
theorem e_X7_readsText_31 (sc : SC) (p0 : Nat) (v1 : AV) (v2 : AV) (h : AH) : Run sc n_X7_readsText 31 [aD p0, v1, v2] none [] h = Run sc n_X7_readsText 32 [aD p0, v1, v2] none [aI (nI 0)] h := by
  refine (s_go mt_X7_readsText dX7_readsText_31 rfl).trans ?_
  exact rfl
theorem e_X7_readsText_32 (sc : SC) (p0 : Nat) (v1 : AV) (v2 : AV) (y0 : Int32) (h : AH) : Run sc n_X7_readsText 32 [aD p0, v1, v2] none [aI y0] h = Run sc n_X7_readsText 35 [aD p0, aI y0, aI (nI 0)] none [] h := by
  refine (s_go mt_X7_readsText dX7_readsText_32 rfl).trans ?_
  refine (s_go mt_X7_readsText dX7_readsText_33 rfl).trans ?_
  refine (s_go mt_X7_readsText dX7_readsText_34 rfl).trans ?_
  exact rfl
theorem e_X7_readsText_35 (sc : SC) (p0 : Nat) (x1 : Int32) (x2 : Int32) (h : AH) : Run sc n_X7_readsText 35 [aD p0, aI x1, aI x2] none [] h = Run sc n_X7_readsText (if (nI 120) ≤ x2 then 84 else 41) [aD p0, aI x1, aI x2] none [] h := by
  refine (s_go mt_X7_readsText dX7_readsText_35 rfl).trans ?_
  refine (s_go mt_X7_readsText dX7_readsText_36 rfl).trans ?_
  exact q_icmp mt_X7_readsText dX7_readsText_38 (fun _ _ _ _ => rfl) rfl
theorem e_X7_readsText_41 (sc : SC) (p0 : Nat) (x1 : Int32) (x2 : Int32) (h : AH) : Run sc n_X7_readsText 41 [aD p0, aI x1, aI x2] none [] h = Run sc n_X7_readsText (if x1 = 0 then 84 else 45) [aD p0, aI x1, aI x2] none [] h := by
  refine (s_go mt_X7_readsText dX7_readsText_41 rfl).trans ?_
  exact q_if mt_X7_readsText dX7_readsText_42 (fun _ _ _ _ => rfl) rfl
theorem e_X7_readsText_45 (sc : SC) (p0 : Nat) (x1 : Int32) (x2 : Int32) (h : AH) : Run sc n_X7_readsText 45 [aD p0, aI x1, aI x2] none [] h = bF (getF sc h (aD p0) 9 2) (fun z => Run sc n_X7_readsText 49 [aD p0, aI x1, aI x2] none [z] h) := by
  refine (s_go mt_X7_readsText dX7_readsText_45 rfl).trans ?_
  exact q_getfield mt_X7_readsText dX7_readsText_46 rfl
theorem e_X7_readsText_56 (sc : SC) (p0 : Nat) (x1 : Int32) (x2 : Int32) (h : AH) : Run sc n_X7_readsText 56 [aD p0, aI x1, aI x2] none [] h = bI (rOK sc h (aD p0) 9 = true) (bC (Call sc n_X7_passes [aD p0, aI (nI 59)] h) (fun v z => Run sc n_X7_readsText 62 [aD p0, aI x1, aI x2] none (v.toList ++ []) z) (fun E z => some (.inr E, z))) := by
  refine (s_go mt_X7_readsText dX7_readsText_56 rfl).trans ?_
  refine (s_go mt_X7_readsText dX7_readsText_57 rfl).trans ?_
  exact q_cV mt_X7_readsText dX7_readsText_59 rfl mt_X7_passes rfl rfl rfl
theorem e_X7_readsText_65 (sc : SC) (p0 : Nat) (x1 : Int32) (x2 : Int32) (h : AH) : Run sc n_X7_readsText 65 [aD p0, aI x1, aI x2] none [] h = bI (rOK sc h (aD p0) 9 = true) (bC (Call sc n_X7_readsInstruction [aD p0] h) (fun v z => Run sc n_X7_readsText 69 [aD p0, aI x1, aI x2] none (v.toList ++ []) z) (fun E z => some (.inr E, z))) := by
  refine (s_go mt_X7_readsText dX7_readsText_65 rfl).trans ?_
  exact q_cV mt_X7_readsText dX7_readsText_66 rfl mt_X7_readsInstruction rfl rfl rfl
theorem e_X7_readsText_72 (sc : SC) (p0 : Nat) (x1 : Int32) (x2 : Int32) (h : AH) : Run sc n_X7_readsText 72 [aD p0, aI x1, aI x2] none [] h = Run sc n_X7_readsText 77 [aD p0, aI x1, aI x2] none [aI (nI 1)] h := by
  refine (s_go mt_X7_readsText dX7_readsText_72 rfl).trans ?_
  refine (s_go mt_X7_readsText dX7_readsText_73 rfl).trans ?_
  exact rfl
theorem e_X7_readsText_76 (sc : SC) (p0 : Nat) (x1 : Int32) (x2 : Int32) (h : AH) : Run sc n_X7_readsText 76 [aD p0, aI x1, aI x2] none [] h = Run sc n_X7_readsText 77 [aD p0, aI x1, aI x2] none [aI (nI 0)] h := by
  refine (s_go mt_X7_readsText dX7_readsText_76 rfl).trans ?_
  exact rfl
theorem e_X7_readsText_77 (sc : SC) (p0 : Nat) (x1 : Int32) (x2 : Int32) (y0 : Int32) (h : AH) : Run sc n_X7_readsText 77 [aD p0, aI x1, aI x2] none [aI y0] h = Run sc n_X7_readsText 35 [aD p0, aI y0, aI (x2 + nI 1)] none [] h := by
  refine (s_go mt_X7_readsText dX7_readsText_77 rfl).trans ?_
  refine (s_go mt_X7_readsText dX7_readsText_78 rfl).trans ?_
  refine (s_go mt_X7_readsText dX7_readsText_81 rfl).trans ?_
  exact rfl
theorem e_X7_readsText_84 (sc : SC) (p0 : Nat) (x1 : Int32) (x2 : Int32) (h : AH) : Run sc n_X7_readsText 84 [aD p0, aI x1, aI x2] none [] h = bI (retK (some FieldType.boolean) x1 = true) (some (.inl (some (aI x1)), h)) := by
  refine (s_go mt_X7_readsText dX7_readsText_84 rfl).trans ?_
  exact q_iret mt_X7_readsText dX7_readsText_85
theorem e_X7_readsText_5 (sc : SC) (p0 : Nat) (v1 : AV) (v2 : AV) (h : AH) : Run sc n_X7_readsText 5 [aD p0, v1, v2] none [] h = bF (getF sc h (aD p0) 9 4) (fun z => Run sc n_X7_readsText 9 [aD p0, v1, v2] none [z] h) := by
  refine (s_go mt_X7_readsText dX7_readsText_5 rfl).trans ?_
  exact q_getfield mt_X7_readsText dX7_readsText_6 rfl
theorem e_X7_readsText_24 (sc : SC) (p0 : Nat) (v1 : AV) (v2 : AV) (y0 : Int32) (h : AH) : Run sc n_X7_readsText 24 [aD p0, v1, v2] none [aI y0] h = Run sc n_X7_readsText (if y0 = 0 then 31 else 27) [aD p0, v1, v2] none [] h := by
  exact q_if mt_X7_readsText dX7_readsText_24 (fun _ _ _ _ => rfl) rfl
theorem e_X7_readsText_49 (sc : SC) (p0 : Nat) (x1 : Int32) (x2 : Int32) (y0 : Int32) (h : AH) : Run sc n_X7_readsText 49 [aD p0, aI x1, aI x2] none [aI y0] h = bF (getF sc h (aD p0) 9 1) (fun z => Run sc n_X7_readsText 53 [aD p0, aI x1, aI x2] none [z, aI y0] h) := by
  refine (s_go mt_X7_readsText dX7_readsText_49 rfl).trans ?_
  exact q_getfield mt_X7_readsText dX7_readsText_50 rfl
theorem e_X7_readsText_62 (sc : SC) (p0 : Nat) (x1 : Int32) (x2 : Int32) (y0 : Int32) (h : AH) : Run sc n_X7_readsText 62 [aD p0, aI x1, aI x2] none [aI y0] h = Run sc n_X7_readsText (if y0 = 0 then 76 else 65) [aD p0, aI x1, aI x2] none [] h := by
  exact q_if mt_X7_readsText dX7_readsText_62 (fun _ _ _ _ => rfl) rfl
theorem e_X7_readsText_69 (sc : SC) (p0 : Nat) (x1 : Int32) (x2 : Int32) (y0 : Int32) (h : AH) : Run sc n_X7_readsText 69 [aD p0, aI x1, aI x2] none [aI y0] h = Run sc n_X7_readsText (if y0 = 0 then 76 else 72) [aD p0, aI x1, aI x2] none [] h := by
  exact q_if mt_X7_readsText dX7_readsText_69 (fun _ _ _ _ => rfl) rfl
theorem e_X7_readsText_9 (sc : SC) (p0 : Nat) (v1 : AV) (v2 : AV) (q0 : Nat) (h : AH) : Run sc n_X7_readsText 9 [aD p0, v1, v2] none [aD q0] h = bO (putF h q0 8 1 0 (aI (nI 0))) (fun z => Run sc n_X7_readsText 13 [aD p0, v1, v2] none [] z) := by
  refine (s_go mt_X7_readsText dX7_readsText_9 rfl).trans ?_
  exact q_putfield mt_X7_readsText dX7_readsText_10 rfl rfl rfl rfl
theorem e_X7_readsText_53 (sc : SC) (p0 : Nat) (x1 : Int32) (x2 : Int32) (y0 : Int32) (y1 : Int32) (h : AH) : Run sc n_X7_readsText 53 [aD p0, aI x1, aI x2] none [aI y1, aI y0] h = Run sc n_X7_readsText (if y1 ≤ y0 then 84 else 56) [aD p0, aI x1, aI x2] none [] h := by
  exact q_icmp mt_X7_readsText dX7_readsText_53 (fun _ _ _ _ => rfl) rfl
theorem e_X7_readsText_13 (sc : SC) (p0 : Nat) (v1 : AV) (v2 : AV) (h : AH) : Run sc n_X7_readsText 13 [aD p0, v1, v2] none [] h = bF (getF sc h (aD p0) 9 1) (fun z => Run sc n_X7_readsText 17 [aD p0, v1, v2] none [z] h) := by
  refine (s_go mt_X7_readsText dX7_readsText_13 rfl).trans ?_
  exact q_getfield mt_X7_readsText dX7_readsText_14 rfl
theorem e_X7_readsText_17 (sc : SC) (p0 : Nat) (v1 : AV) (v2 : AV) (y0 : Int32) (h : AH) : Run sc n_X7_readsText 17 [aD p0, v1, v2] none [aI y0] h = Run sc n_X7_readsText (if y0 = 0 then 27 else 20) [aD p0, v1, v2] none [] h := by
  exact q_if mt_X7_readsText dX7_readsText_17 (fun _ _ _ _ => rfl) rfl
/-! BranchSlotFiller$TextReader.greatest(C)I -/
theorem e_X7_greatest_0 (sc : SC) (p0 : Nat) (x1 : Int32) (h : AH) : Run sc n_X7_greatest 0 [aD p0, aI x1] none [] h = Run sc n_X7_greatest (if ¬ x1 = (nI 111) then 9 else 6) [aD p0, aI x1] none [] h := by
  refine (s_go mt_X7_greatest dX7_greatest_0 rfl).trans ?_
  refine (s_go mt_X7_greatest dX7_greatest_1 rfl).trans ?_
  exact q_icmp mt_X7_greatest dX7_greatest_3 (fun _ _ _ _ => rfl) rfl
theorem e_X7_greatest_6 (sc : SC) (p0 : Nat) (x1 : Int32) (h : AH) : Run sc n_X7_greatest 6 [aD p0, aI x1] none [] h = some (.inl (some (aI (nI 15))), h) := by
  refine (s_go mt_X7_greatest dX7_greatest_6 rfl).trans ?_
  exact q_ret (c := (some (aI (nI 15)), h)) mt_X7_greatest dX7_greatest_8 rfl
theorem e_X7_greatest_9 (sc : SC) (p0 : Nat) (x1 : Int32) (h : AH) : Run sc n_X7_greatest 9 [aD p0, aI x1] none [] h = Run sc n_X7_greatest (if ¬ x1 = (nI 116) then 23 else 15) [aD p0, aI x1] none [] h := by
  refine (s_go mt_X7_greatest dX7_greatest_9 rfl).trans ?_
  refine (s_go mt_X7_greatest dX7_greatest_10 rfl).trans ?_
  exact q_icmp mt_X7_greatest dX7_greatest_12 (fun _ _ _ _ => rfl) rfl
theorem e_X7_greatest_15 (sc : SC) (p0 : Nat) (x1 : Int32) (h : AH) : Run sc n_X7_greatest 15 [aD p0, aI x1] none [] h = bF (getF sc h (aD p0) 9 4) (fun z => Run sc n_X7_greatest 19 [aD p0, aI x1] none [z] h) := by
  refine (s_go mt_X7_greatest dX7_greatest_15 rfl).trans ?_
  exact q_getfield mt_X7_greatest dX7_greatest_16 rfl
theorem e_X7_greatest_23 (sc : SC) (p0 : Nat) (x1 : Int32) (h : AH) : Run sc n_X7_greatest 23 [aD p0, aI x1] none [] h = Run sc n_X7_greatest (if ¬ x1 = (nI 110) then 34 else 29) [aD p0, aI x1] none [] h := by
  refine (s_go mt_X7_greatest dX7_greatest_23 rfl).trans ?_
  refine (s_go mt_X7_greatest dX7_greatest_24 rfl).trans ?_
  exact q_icmp mt_X7_greatest dX7_greatest_26 (fun _ _ _ _ => rfl) rfl
theorem e_X7_greatest_29 (sc : SC) (p0 : Nat) (x1 : Int32) (h : AH) : Run sc n_X7_greatest 29 [aD p0, aI x1] none [] h = Run sc n_X7_greatest 36 [aD p0, aI x1] none [aI (nI 99)] h := by
  refine (s_go mt_X7_greatest dX7_greatest_29 rfl).trans ?_
  refine (s_go mt_X7_greatest dX7_greatest_31 rfl).trans ?_
  exact rfl
theorem e_X7_greatest_34 (sc : SC) (p0 : Nat) (x1 : Int32) (h : AH) : Run sc n_X7_greatest 34 [aD p0, aI x1] none [] h = Run sc n_X7_greatest 36 [aD p0, aI x1] none [aI (nI 7)] h := by
  refine (s_go mt_X7_greatest dX7_greatest_34 rfl).trans ?_
  exact rfl
theorem e_X7_greatest_36 (sc : SC) (p0 : Nat) (x1 : Int32) (y0 : Int32) (h : AH) : Run sc n_X7_greatest 36 [aD p0, aI x1] none [aI y0] h = some (.inl (some (aI y0)), h) := by
  exact q_ret (c := (some (aI y0), h)) mt_X7_greatest dX7_greatest_36 rfl
theorem e_X7_greatest_19 (sc : SC) (p0 : Nat) (x1 : Int32) (q0 : Nat) (h : AH) : Run sc n_X7_greatest 19 [aD p0, aI x1] none [aD q0] h = bF (getF sc h (aD q0) 8 1) (fun z => Run sc n_X7_greatest 22 [aD p0, aI x1] none [z] h) := by
  exact q_getfield mt_X7_greatest dX7_greatest_19 rfl
theorem e_X7_greatest_22 (sc : SC) (p0 : Nat) (x1 : Int32) (y0 : Int32) (h : AH) : Run sc n_X7_greatest 22 [aD p0, aI x1] none [aI y0] h = some (.inl (some (aI y0)), h) := by
  exact q_ret (c := (some (aI y0), h)) mt_X7_greatest dX7_greatest_22 rfl
/-! BranchSlotFiller$TextReader.isInRange()Z -/
theorem e_X7_isInRange_0 (sc : SC) (p0 : Nat) (v1 : AV) (v2 : AV) (h : AH) : Run sc n_X7_isInRange 0 [aD p0, v1, v2] none [] h = Run sc n_X7_isInRange 2 [aD p0, aI (nI 0), v2] none [] h := by
  refine (s_go mt_X7_isInRange dX7_isInRange_0 rfl).trans ?_
  refine (s_go mt_X7_isInRange dX7_isInRange_1 rfl).trans ?_
  exact rfl
theorem e_X7_isInRange_2 (sc : SC) (p0 : Nat) (x1 : Int32) (v2 : AV) (h : AH) : Run sc n_X7_isInRange 2 [aD p0, aI x1, v2] none [] h = bF (getF sc h (aD p0) 9 4) (fun z => Run sc n_X7_isInRange 7 [aD p0, aI x1, v2] none [z, aI x1] h) := by
  refine (s_go mt_X7_isInRange dX7_isInRange_2 rfl).trans ?_
  refine (s_go mt_X7_isInRange dX7_isInRange_3 rfl).trans ?_
  exact q_getfield mt_X7_isInRange dX7_isInRange_4 rfl
theorem e_X7_isInRange_13 (sc : SC) (p0 : Nat) (x1 : Int32) (v2 : AV) (h : AH) : Run sc n_X7_isInRange 13 [aD p0, aI x1, v2] none [] h = Run sc n_X7_isInRange 15 [aD p0, aI x1, aI (nI 0)] none [] h := by
  refine (s_go mt_X7_isInRange dX7_isInRange_13 rfl).trans ?_
  refine (s_go mt_X7_isInRange dX7_isInRange_14 rfl).trans ?_
  exact rfl
theorem e_X7_isInRange_15 (sc : SC) (p0 : Nat) (x1 : Int32) (x2 : Int32) (h : AH) : Run sc n_X7_isInRange 15 [aD p0, aI x1, aI x2] none [] h = Run sc n_X7_isInRange (if (nI 3) ≤ x2 then 58 else 20) [aD p0, aI x1, aI x2] none [] h := by
  refine (s_go mt_X7_isInRange dX7_isInRange_15 rfl).trans ?_
  refine (s_go mt_X7_isInRange dX7_isInRange_16 rfl).trans ?_
  exact q_icmp mt_X7_isInRange dX7_isInRange_17 (fun _ _ _ _ => rfl) rfl
theorem e_X7_isInRange_20 (sc : SC) (p0 : Nat) (x1 : Int32) (x2 : Int32) (h : AH) : Run sc n_X7_isInRange 20 [aD p0, aI x1, aI x2] none [] h = bF (getF sc h (aD p0) 9 4) (fun z => Run sc n_X7_isInRange 24 [aD p0, aI x1, aI x2] none [z] h) := by
  refine (s_go mt_X7_isInRange dX7_isInRange_20 rfl).trans ?_
  exact q_getfield mt_X7_isInRange dX7_isInRange_21 rfl
theorem e_X7_isInRange_50 (sc : SC) (p0 : Nat) (x1 : Int32) (x2 : Int32) (h : AH) : Run sc n_X7_isInRange 50 [aD p0, aI x1, aI x2] none [] h = some (.inl (some (aI (nI 0))), h) := by
  refine (s_go mt_X7_isInRange dX7_isInRange_50 rfl).trans ?_
  exact q_ret (c := (some (aI (nI 0)), h)) mt_X7_isInRange dX7_isInRange_51 rfl
theorem e_X7_isInRange_52 (sc : SC) (p0 : Nat) (x1 : Int32) (x2 : Int32) (h : AH) : Run sc n_X7_isInRange 52 [aD p0, aI x1, aI x2] none [] h = Run sc n_X7_isInRange 15 [aD p0, aI x1, aI (x2 + nI 1)] none [] h := by
  refine (s_go mt_X7_isInRange dX7_isInRange_52 rfl).trans ?_
  refine (s_go mt_X7_isInRange dX7_isInRange_55 rfl).trans ?_
  exact rfl
theorem e_X7_isInRange_58 (sc : SC) (p0 : Nat) (x1 : Int32) (x2 : Int32) (h : AH) : Run sc n_X7_isInRange 58 [aD p0, aI x1, aI x2] none [] h = Run sc n_X7_isInRange 2 [aD p0, aI (x1 + nI 1), aI x2] none [] h := by
  refine (s_go mt_X7_isInRange dX7_isInRange_58 rfl).trans ?_
  refine (s_go mt_X7_isInRange dX7_isInRange_61 rfl).trans ?_
  exact rfl
theorem e_X7_isInRange_64 (sc : SC) (p0 : Nat) (x1 : Int32) (v2 : AV) (h : AH) : Run sc n_X7_isInRange 64 [aD p0, aI x1, v2] none [] h = some (.inl (some (aI (nI 1))), h) := by
  refine (s_go mt_X7_isInRange dX7_isInRange_64 rfl).trans ?_
  exact q_ret (c := (some (aI (nI 1)), h)) mt_X7_isInRange dX7_isInRange_65 rfl
theorem e_X7_isInRange_7 (sc : SC) (p0 : Nat) (x1 : Int32) (v2 : AV) (y0 : Int32) (q1 : Nat) (h : AH) : Run sc n_X7_isInRange 7 [aD p0, aI x1, v2] none [aD q1, aI y0] h = bF (getF sc h (aD q1) 8 1) (fun z => Run sc n_X7_isInRange 10 [aD p0, aI x1, v2] none [z, aI y0] h) := by
  exact q_getfield mt_X7_isInRange dX7_isInRange_7 rfl
theorem e_X7_isInRange_24 (sc : SC) (p0 : Nat) (x1 : Int32) (x2 : Int32) (q0 : Nat) (h : AH) : Run sc n_X7_isInRange 24 [aD p0, aI x1, aI x2] none [aD q0] h = bI (rOK sc h (aD q0) 8 = true) (bC (Call sc n_X6_part [aD q0, aI x1, aI ((nI 1) + x2)] h) (fun v z => Run sc n_X7_isInRange 31 [aD p0, aI x1, aI x2] none (v.toList ++ []) z) (fun E z => some (.inr E, z))) := by
  refine (s_go mt_X7_isInRange dX7_isInRange_24 rfl).trans ?_
  refine (s_go mt_X7_isInRange dX7_isInRange_25 rfl).trans ?_
  refine (s_go mt_X7_isInRange dX7_isInRange_26 rfl).trans ?_
  refine (s_go mt_X7_isInRange dX7_isInRange_27 rfl).trans ?_
  exact q_cV mt_X7_isInRange dX7_isInRange_28 rfl mt_X6_part rfl rfl rfl
theorem e_X7_isInRange_10 (sc : SC) (p0 : Nat) (x1 : Int32) (v2 : AV) (y0 : Int32) (y1 : Int32) (h : AH) : Run sc n_X7_isInRange 10 [aD p0, aI x1, v2] none [aI y1, aI y0] h = Run sc n_X7_isInRange (if y1 ≤ y0 then 64 else 13) [aD p0, aI x1, v2] none [] h := by
  exact q_icmp mt_X7_isInRange dX7_isInRange_10 (fun _ _ _ _ => rfl) rfl
theorem e_X7_isInRange_31 (sc : SC) (p0 : Nat) (x1 : Int32) (x2 : Int32) (y0 : Int32) (h : AH) : Run sc n_X7_isInRange 31 [aD p0, aI x1, aI x2] none [aI y0] h = bF (getF sc h (aD p0) 9 4) (fun z => Run sc n_X7_isInRange 36 [aD p0, aI x1, aI x2] none [z, aD p0, aI y0] h) := by
  refine (s_go mt_X7_isInRange dX7_isInRange_31 rfl).trans ?_
  refine (s_go mt_X7_isInRange dX7_isInRange_32 rfl).trans ?_
  exact q_getfield mt_X7_isInRange dX7_isInRange_33 rfl
theorem e_X7_isInRange_36 (sc : SC) (p0 : Nat) (x1 : Int32) (x2 : Int32) (y0 : Int32) (q1 : Nat) (q2 : Nat) (h : AH) : Run sc n_X7_isInRange 36 [aD p0, aI x1, aI x2] none [aD q2, aD q1, aI y0] h = bI (rOK sc h (aD q2) 8 = true) (bC (Call sc n_X6_kind [aD q2, aI x1] h) (fun v z => Run sc n_X7_isInRange 40 [aD p0, aI x1, aI x2] none (v.toList ++ [aD q1, aI y0]) z) (fun E z => some (.inr E, z))) := by
  refine (s_go mt_X7_isInRange dX7_isInRange_36 rfl).trans ?_
  exact q_cV mt_X7_isInRange dX7_isInRange_37 rfl mt_X6_kind rfl rfl rfl
theorem e_X7_isInRange_40 (sc : SC) (p0 : Nat) (x1 : Int32) (x2 : Int32) (y0 : Int32) (q1 : Nat) (d2 : Nat) (h : AH) : Run sc n_X7_isInRange 40 [aD p0, aI x1, aI x2] none [aC d2, aD q1, aI y0] h = bI (rOK sc h (aC d2) 100 = true) (bC (Call sc n_X4_sign [aC d2, aI x2] h) (fun v z => Run sc n_X7_isInRange 44 [aD p0, aI x1, aI x2] none (v.toList ++ [aD q1, aI y0]) z) (fun E z => some (.inr E, z))) := by
  refine (s_go mt_X7_isInRange dX7_isInRange_40 rfl).trans ?_
  exact q_cV mt_X7_isInRange dX7_isInRange_41 rfl mt_X4_sign rfl rfl rfl
theorem e_X7_isInRange_44 (sc : SC) (p0 : Nat) (x1 : Int32) (x2 : Int32) (y0 : Int32) (q1 : Nat) (y2 : Int32) (h : AH) : Run sc n_X7_isInRange 44 [aD p0, aI x1, aI x2] none [aI y2, aD q1, aI y0] h = bI (rOK sc h (aD q1) 9 = true) (bC (Call sc n_X7_greatest [aD q1, aI y2] h) (fun v z => Run sc n_X7_isInRange 47 [aD p0, aI x1, aI x2] none (v.toList ++ [aI y0]) z) (fun E z => some (.inr E, z))) := by
  exact q_cV mt_X7_isInRange dX7_isInRange_44 rfl mt_X7_greatest rfl rfl rfl
theorem e_X7_isInRange_47 (sc : SC) (p0 : Nat) (x1 : Int32) (x2 : Int32) (y0 : Int32) (y1 : Int32) (h : AH) : Run sc n_X7_isInRange 47 [aD p0, aI x1, aI x2] none [aI y1, aI y0] h = Run sc n_X7_isInRange (if y0 ≤ y1 then 52 else 50) [aD p0, aI x1, aI x2] none [] h := by
  exact q_icmp mt_X7_isInRange dX7_isInRange_47 (fun _ _ _ _ => rfl) rfl
/-! BranchSlotFiller$TextWriter.<init>()V -/
theorem e_X8_init_0 (sc : SC) (p0 : Nat) (h : AH) : Run sc n_X8_init 0 [aD p0] none [] h = bI (¬ ((nI 840) < 0 ∨ 67108864 < (nI 840).toNatClampNeg)) (Run sc n_X8_init 10 [aD p0] none [aD h.1.length, aD p0] (hpush h (oI 1 (nI 840).toNatClampNeg (fun _ => 0)))) := by
  refine (s_go mt_X8_init dX8_init_0 rfl).trans ?_
  refine (s_go mt_X8_init dX8_init_1 rfl).trans ?_
  refine (s_go mt_X8_init dX8_init_4 rfl).trans ?_
  refine (s_go mt_X8_init dX8_init_5 rfl).trans ?_
  exact q_newarray (mk := fun m => oI 1 m (fun _ => 0)) mt_X8_init dX8_init_8 (fun _ => rfl)
theorem e_X8_init_10 (sc : SC) (p0 : Nat) (q0 : Nat) (q1 : Nat) (h : AH) : Run sc n_X8_init 10 [aD p0] none [aD q1, aD q0] h = bO (putF h q0 10 0 3 (aD q1)) (fun z => Run sc n_X8_init 13 [aD p0] none [] z) := by
  exact q_putfield mt_X8_init dX8_init_10 rfl rfl rfl rfl
theorem e_X8_init_13 (sc : SC) (p0 : Nat) (h : AH) : Run sc n_X8_init 13 [aD p0] none [] h = some (.inl none, h) := by
  exact q_ret (c := (none, h)) mt_X8_init dX8_init_13 rfl
/-! BranchSlotFiller$TextWriter.append(C)V -/
theorem e_X8_append_0 (sc : SC) (p0 : Nat) (x1 : Int32) (h : AH) : Run sc n_X8_append 0 [aD p0, aI x1] none [] h = bF (getF sc h (aD p0) 10 1) (fun z => Run sc n_X8_append 4 [aD p0, aI x1] none [z] h) := by
  refine (s_go mt_X8_append dX8_append_0 rfl).trans ?_
  exact q_getfield mt_X8_append dX8_append_1 rfl
theorem e_X8_append_12 (sc : SC) (p0 : Nat) (x1 : Int32) (h : AH) : Run sc n_X8_append 12 [aD p0, aI x1] none [] h = bF (getF sc h (aD p0) 10 0) (fun z => Run sc n_X8_append 16 [aD p0, aI x1] none [z] h) := by
  refine (s_go mt_X8_append dX8_append_12 rfl).trans ?_
  exact q_getfield mt_X8_append dX8_append_13 rfl
theorem e_X8_append_32 (sc : SC) (p0 : Nat) (x1 : Int32) (h : AH) : Run sc n_X8_append 32 [aD p0, aI x1] none [] h = some (.inl none, h) := by
  exact q_ret (c := (none, h)) mt_X8_append dX8_append_32 rfl
theorem e_X8_append_4 (sc : SC) (p0 : Nat) (x1 : Int32) (y0 : Int32) (h : AH) : Run sc n_X8_append 4 [aD p0, aI x1] none [aI y0] h = bF (getF sc h (aD p0) 10 0) (fun z => Run sc n_X8_append 8 [aD p0, aI x1] none [z, aI y0] h) := by
  refine (s_go mt_X8_append dX8_append_4 rfl).trans ?_
  exact q_getfield mt_X8_append dX8_append_5 rfl
theorem e_X8_append_16 (sc : SC) (p0 : Nat) (x1 : Int32) (q0 : Nat) (h : AH) : Run sc n_X8_append 16 [aD p0, aI x1] none [aD q0] h = bF (getF sc h (aD p0) 10 1) (fun z => Run sc n_X8_append 20 [aD p0, aI x1] none [z, aD q0] h) := by
  refine (s_go mt_X8_append dX8_append_16 rfl).trans ?_
  exact q_getfield mt_X8_append dX8_append_17 rfl
theorem e_X8_append_8 (sc : SC) (p0 : Nat) (x1 : Int32) (y0 : Int32) (q1 : Nat) (h : AH) : Run sc n_X8_append 8 [aD p0, aI x1] none [aD q1, aI y0] h = bO (lenA sc h (aD q1)) (fun z => Run sc n_X8_append 9 [aD p0, aI x1] none [aI (nI z), aI y0] h) := by
  exact q_alen mt_X8_append dX8_append_8
theorem e_X8_append_20 (sc : SC) (p0 : Nat) (x1 : Int32) (q0 : Nat) (y1 : Int32) (h : AH) : Run sc n_X8_append 20 [aD p0, aI x1] none [aI y1, aD q0] h = bO (stI h (fun t => t == 1) q0 y1 x1) (fun z => Run sc n_X8_append 22 [aD p0, aI x1] none [] z) := by
  refine (s_go mt_X8_append dX8_append_20 rfl).trans ?_
  exact q_castore mt_X8_append dX8_append_21
theorem e_X8_append_9 (sc : SC) (p0 : Nat) (x1 : Int32) (y0 : Int32) (y1 : Int32) (h : AH) : Run sc n_X8_append 9 [aD p0, aI x1] none [aI y1, aI y0] h = Run sc n_X8_append (if y1 ≤ y0 then 32 else 12) [aD p0, aI x1] none [] h := by
  exact q_icmp mt_X8_append dX8_append_9 (fun _ _ _ _ => rfl) rfl
theorem e_X8_append_22 (sc : SC) (p0 : Nat) (x1 : Int32) (h : AH) : Run sc n_X8_append 22 [aD p0, aI x1] none [] h = bF (getF sc h (aD p0) 10 1) (fun z => Run sc n_X8_append 27 [aD p0, aI x1] none [z, aD p0] h) := by
  refine (s_go mt_X8_append dX8_append_22 rfl).trans ?_
  refine (s_go mt_X8_append dX8_append_23 rfl).trans ?_
  exact q_getfield mt_X8_append dX8_append_24 rfl
theorem e_X8_append_27 (sc : SC) (p0 : Nat) (x1 : Int32) (q0 : Nat) (y1 : Int32) (h : AH) : Run sc n_X8_append 27 [aD p0, aI x1] none [aI y1, aD q0] h = bO (putF h q0 10 1 0 (aI (y1 + (nI 1)))) (fun z => Run sc n_X8_append 32 [aD p0, aI x1] none [] z) := by
  refine (s_go mt_X8_append dX8_append_27 rfl).trans ?_
  refine (s_go mt_X8_append dX8_append_28 rfl).trans ?_
  exact q_putfield mt_X8_append dX8_append_29 rfl rfl rfl rfl
/-! BranchSlotFiller$TextWriter.writeNumber(I)V -/
theorem e_X8_writeNumber_0 (sc : SC) (p0 : Nat) (x1 : Int32) (v2 : AV) (h : AH) : Run sc n_X8_writeNumber 0 [aD p0, aI x1, v2] none [] h = Run sc n_X8_writeNumber (if 0 ≤ x1 then 15 else 9) [aD p0, aI x1, aI (if 0 ≤ x1 then x1 else 0 - x1)] none [] h := by
  refine (s_go mt_X8_writeNumber dX8_writeNumber_0 rfl).trans ?_
  refine (s_go mt_X8_writeNumber dX8_writeNumber_1 rfl).trans ?_
  refine (s_go mt_X8_writeNumber dX8_writeNumber_4 rfl).trans ?_
  refine (s_go mt_X8_writeNumber dX8_writeNumber_5 rfl).trans ?_
  exact q_if mt_X8_writeNumber dX8_writeNumber_6 (fun _ _ _ _ => rfl) rfl
theorem e_X8_writeNumber_9 (sc : SC) (p0 : Nat) (x1 : Int32) (x2 : Int32) (h : AH) : Run sc n_X8_writeNumber 9 [aD p0, aI x1, aI x2] none [] h = bI (rOK sc h (aD p0) 10 = true) (bC (Call sc n_X8_append [aD p0, aI (nI 45)] h) (fun v z => Run sc n_X8_writeNumber 15 [aD p0, aI x1, aI x2] none (v.toList ++ []) z) (fun E z => some (.inr E, z))) := by
  refine (s_go mt_X8_writeNumber dX8_writeNumber_9 rfl).trans ?_
  refine (s_go mt_X8_writeNumber dX8_writeNumber_10 rfl).trans ?_
  exact q_cV mt_X8_writeNumber dX8_writeNumber_12 rfl mt_X8_append rfl rfl rfl
theorem e_X8_writeNumber_15 (sc : SC) (p0 : Nat) (x1 : Int32) (x2 : Int32) (h : AH) : Run sc n_X8_writeNumber 15 [aD p0, aI x1, aI x2] none [] h = Run sc n_X8_writeNumber (if x2 < (nI 10) then 33 else 21) [aD p0, aI x1, aI x2] none [] h := by
  refine (s_go mt_X8_writeNumber dX8_writeNumber_15 rfl).trans ?_
  refine (s_go mt_X8_writeNumber dX8_writeNumber_16 rfl).trans ?_
  exact q_icmp mt_X8_writeNumber dX8_writeNumber_18 (fun _ _ _ _ => rfl) rfl
theorem e_X8_writeNumber_21 (sc : SC) (p0 : Nat) (x1 : Int32) (x2 : Int32) (h : AH) : Run sc n_X8_writeNumber 21 [aD p0, aI x1, aI x2] none [] h = bI (¬ (nI 10) = 0) (Run sc n_X8_writeNumber 28 [aD p0, aI x1, aI x2] none [aI (x2 / (nI 10)), aI (nI 48), aD p0] h) := by
  refine (s_go mt_X8_writeNumber dX8_writeNumber_21 rfl).trans ?_
  refine (s_go mt_X8_writeNumber dX8_writeNumber_22 rfl).trans ?_
  refine (s_go mt_X8_writeNumber dX8_writeNumber_24 rfl).trans ?_
  refine (s_go mt_X8_writeNumber dX8_writeNumber_25 rfl).trans ?_
  exact q_idiv mt_X8_writeNumber dX8_writeNumber_27
theorem e_X8_writeNumber_33 (sc : SC) (p0 : Nat) (x1 : Int32) (x2 : Int32) (h : AH) : Run sc n_X8_writeNumber 33 [aD p0, aI x1, aI x2] none [] h = bI (¬ (nI 10) = 0) (Run sc n_X8_writeNumber 40 [aD p0, aI x1, aI x2] none [aI (x2 - x2 / (nI 10) * (nI 10)), aI (nI 48), aD p0] h) := by
  refine (s_go mt_X8_writeNumber dX8_writeNumber_33 rfl).trans ?_
  refine (s_go mt_X8_writeNumber dX8_writeNumber_34 rfl).trans ?_
  refine (s_go mt_X8_writeNumber dX8_writeNumber_36 rfl).trans ?_
  refine (s_go mt_X8_writeNumber dX8_writeNumber_37 rfl).trans ?_
  exact q_irem mt_X8_writeNumber dX8_writeNumber_39
theorem e_X8_writeNumber_28 (sc : SC) (p0 : Nat) (x1 : Int32) (x2 : Int32) (q0 : Nat) (y1 : Int32) (y2 : Int32) (h : AH) : Run sc n_X8_writeNumber 28 [aD p0, aI x1, aI x2] none [aI y2, aI y1, aD q0] h = bI (rOK sc h (aD q0) 10 = true) (bC (Call sc n_X8_append [aD q0, aI (((y1 + y2).toUInt32 % 65536).toInt32)] h) (fun v z => Run sc n_X8_writeNumber 33 [aD p0, aI x1, aI x2] none (v.toList ++ []) z) (fun E z => some (.inr E, z))) := by
  refine (s_go mt_X8_writeNumber dX8_writeNumber_28 rfl).trans ?_
  refine (s_go mt_X8_writeNumber dX8_writeNumber_29 rfl).trans ?_
  exact q_cV mt_X8_writeNumber dX8_writeNumber_30 rfl mt_X8_append rfl rfl rfl
theorem e_X8_writeNumber_40 (sc : SC) (p0 : Nat) (x1 : Int32) (x2 : Int32) (q0 : Nat) (y1 : Int32) (y2 : Int32) (h : AH) : Run sc n_X8_writeNumber 40 [aD p0, aI x1, aI x2] none [aI y2, aI y1, aD q0] h = bI (rOK sc h (aD q0) 10 = true) (bC (Call sc n_X8_append [aD q0, aI (((y1 + y2).toUInt32 % 65536).toInt32)] h) (fun v z => Run sc n_X8_writeNumber 45 [aD p0, aI x1, aI x2] none (v.toList ++ []) z) (fun E z => some (.inr E, z))) := by
  refine (s_go mt_X8_writeNumber dX8_writeNumber_40 rfl).trans ?_
  refine (s_go mt_X8_writeNumber dX8_writeNumber_41 rfl).trans ?_
  exact q_cV mt_X8_writeNumber dX8_writeNumber_42 rfl mt_X8_append rfl rfl rfl
theorem e_X8_writeNumber_45 (sc : SC) (p0 : Nat) (x1 : Int32) (x2 : Int32) (h : AH) : Run sc n_X8_writeNumber 45 [aD p0, aI x1, aI x2] none [] h = some (.inl none, h) := by
  exact q_ret (c := (none, h)) mt_X8_writeNumber dX8_writeNumber_45 rfl
/-! BranchSlotFiller$TextWriter.writeInstruction(LBranchSlotFiller$Program;I)V -/
theorem e_X8_writeInstruction_0 (sc : SC) (p0 : Nat) (p1 : Nat) (x2 : Int32) (v3 : AV) (v4 : AV) (h : AH) : Run sc n_X8_writeInstruction 0 [aD p0, aD p1, aI x2, v3, v4] none [] h = bI (rOK sc h (aD p1) 8 = true) (bC (Call sc n_X6_kind [aD p1, aI x2] h) (fun v z => Run sc n_X8_writeInstruction 5 [aD p0, aD p1, aI x2, v3, v4] none (v.toList ++ []) z) (fun E z => some (.inr E, z))) := by
  refine (s_go mt_X8_writeInstruction dX8_writeInstruction_0 rfl).trans ?_
  refine (s_go mt_X8_writeInstruction dX8_writeInstruction_1 rfl).trans ?_
  exact q_cV mt_X8_writeInstruction dX8_writeInstruction_2 rfl mt_X6_kind rfl rfl rfl
theorem e_X8_writeInstruction_9 (sc : SC) (p0 : Nat) (p1 : Nat) (x2 : Int32) (c3 : Nat) (x4 : Int32) (h : AH) : Run sc n_X8_writeInstruction 9 [aD p0, aD p1, aI x2, aC c3, aI x4] none [] h = bF (getF sc h (aC c3) 100 0) (fun z => Run sc n_X8_writeInstruction 15 [aD p0, aD p1, aI x2, aC c3, aI x4] none [z, aI x4] h) := by
  refine (s_go mt_X8_writeInstruction dX8_writeInstruction_9 rfl).trans ?_
  refine (s_go mt_X8_writeInstruction dX8_writeInstruction_11 rfl).trans ?_
  exact q_getfield mt_X8_writeInstruction dX8_writeInstruction_12 rfl
theorem e_X8_writeInstruction_21 (sc : SC) (p0 : Nat) (p1 : Nat) (x2 : Int32) (c3 : Nat) (x4 : Int32) (h : AH) : Run sc n_X8_writeInstruction 21 [aD p0, aD p1, aI x2, aC c3, aI x4] none [] h = bF (getF sc h (aC c3) 100 0) (fun z => Run sc n_X8_writeInstruction 26 [aD p0, aD p1, aI x2, aC c3, aI x4] none [z, aD p0] h) := by
  refine (s_go mt_X8_writeInstruction dX8_writeInstruction_21 rfl).trans ?_
  refine (s_go mt_X8_writeInstruction dX8_writeInstruction_22 rfl).trans ?_
  exact q_getfield mt_X8_writeInstruction dX8_writeInstruction_23 rfl
theorem e_X8_writeInstruction_40 (sc : SC) (p0 : Nat) (p1 : Nat) (x2 : Int32) (c3 : Nat) (x4 : Int32) (h : AH) : Run sc n_X8_writeInstruction 40 [aD p0, aD p1, aI x2, aC c3, aI x4] none [] h = bI (rOK sc h (aD p1) 8 = true) (bC (Call sc n_X6_isAnnulling [aD p1, aI x2] h) (fun v z => Run sc n_X8_writeInstruction 45 [aD p0, aD p1, aI x2, aC c3, aI x4] none (v.toList ++ []) z) (fun E z => some (.inr E, z))) := by
  refine (s_go mt_X8_writeInstruction dX8_writeInstruction_40 rfl).trans ?_
  refine (s_go mt_X8_writeInstruction dX8_writeInstruction_41 rfl).trans ?_
  exact q_cV mt_X8_writeInstruction dX8_writeInstruction_42 rfl mt_X6_isAnnulling rfl rfl rfl
theorem e_X8_writeInstruction_48 (sc : SC) (p0 : Nat) (p1 : Nat) (x2 : Int32) (c3 : Nat) (x4 : Int32) (h : AH) : Run sc n_X8_writeInstruction 48 [aD p0, aD p1, aI x2, aC c3, aI x4] none [] h = bI (rOK sc h (aD p0) 10 = true) (bC (Call sc n_X8_append [aD p0, aI (nI 42)] h) (fun v z => Run sc n_X8_writeInstruction 54 [aD p0, aD p1, aI x2, aC c3, aI x4] none (v.toList ++ []) z) (fun E z => some (.inr E, z))) := by
  refine (s_go mt_X8_writeInstruction dX8_writeInstruction_48 rfl).trans ?_
  refine (s_go mt_X8_writeInstruction dX8_writeInstruction_49 rfl).trans ?_
  exact q_cV mt_X8_writeInstruction dX8_writeInstruction_51 rfl mt_X8_append rfl rfl rfl
theorem e_X8_writeInstruction_54 (sc : SC) (p0 : Nat) (p1 : Nat) (x2 : Int32) (c3 : Nat) (x4 : Int32) (h : AH) : Run sc n_X8_writeInstruction 54 [aD p0, aD p1, aI x2, aC c3, aI x4] none [] h = Run sc n_X8_writeInstruction 57 [aD p0, aD p1, aI x2, aC c3, aI (nI 0)] none [] h := by
  refine (s_go mt_X8_writeInstruction dX8_writeInstruction_54 rfl).trans ?_
  refine (s_go mt_X8_writeInstruction dX8_writeInstruction_55 rfl).trans ?_
  exact rfl
theorem e_X8_writeInstruction_57 (sc : SC) (p0 : Nat) (p1 : Nat) (x2 : Int32) (c3 : Nat) (x4 : Int32) (h : AH) : Run sc n_X8_writeInstruction 57 [aD p0, aD p1, aI x2, aC c3, aI x4] none [] h = Run sc n_X8_writeInstruction (if (nI 3) ≤ x4 then 99 else 63) [aD p0, aD p1, aI x2, aC c3, aI x4] none [] h := by
  refine (s_go mt_X8_writeInstruction dX8_writeInstruction_57 rfl).trans ?_
  refine (s_go mt_X8_writeInstruction dX8_writeInstruction_59 rfl).trans ?_
  exact q_icmp mt_X8_writeInstruction dX8_writeInstruction_60 (fun _ _ _ _ => rfl) rfl
theorem e_X8_writeInstruction_63 (sc : SC) (p0 : Nat) (p1 : Nat) (x2 : Int32) (c3 : Nat) (x4 : Int32) (h : AH) : Run sc n_X8_writeInstruction 63 [aD p0, aD p1, aI x2, aC c3, aI x4] none [] h = bI (rOK sc h (aC c3) 100 = true) (bC (Call sc n_X4_sign [aC c3, aI x4] h) (fun v z => Run sc n_X8_writeInstruction 69 [aD p0, aD p1, aI x2, aC c3, aI x4] none (v.toList ++ []) z) (fun E z => some (.inr E, z))) := by
  refine (s_go mt_X8_writeInstruction dX8_writeInstruction_63 rfl).trans ?_
  refine (s_go mt_X8_writeInstruction dX8_writeInstruction_64 rfl).trans ?_
  exact q_cV mt_X8_writeInstruction dX8_writeInstruction_66 rfl mt_X4_sign rfl rfl rfl
theorem e_X8_writeInstruction_74 (sc : SC) (p0 : Nat) (p1 : Nat) (x2 : Int32) (c3 : Nat) (x4 : Int32) (h : AH) : Run sc n_X8_writeInstruction 74 [aD p0, aD p1, aI x2, aC c3, aI x4] none [] h = bI (rOK sc h (aD p0) 10 = true) (bC (Call sc n_X8_append [aD p0, aI (nI 32)] h) (fun v z => Run sc n_X8_writeInstruction 80 [aD p0, aD p1, aI x2, aC c3, aI x4] none (v.toList ++ []) z) (fun E z => some (.inr E, z))) := by
  refine (s_go mt_X8_writeInstruction dX8_writeInstruction_74 rfl).trans ?_
  refine (s_go mt_X8_writeInstruction dX8_writeInstruction_75 rfl).trans ?_
  exact q_cV mt_X8_writeInstruction dX8_writeInstruction_77 rfl mt_X8_append rfl rfl rfl
theorem e_X8_writeInstruction_93 (sc : SC) (p0 : Nat) (p1 : Nat) (x2 : Int32) (c3 : Nat) (x4 : Int32) (h : AH) : Run sc n_X8_writeInstruction 93 [aD p0, aD p1, aI x2, aC c3, aI x4] none [] h = Run sc n_X8_writeInstruction 57 [aD p0, aD p1, aI x2, aC c3, aI (x4 + nI 1)] none [] h := by
  refine (s_go mt_X8_writeInstruction dX8_writeInstruction_93 rfl).trans ?_
  refine (s_go mt_X8_writeInstruction dX8_writeInstruction_96 rfl).trans ?_
  exact rfl
theorem e_X8_writeInstruction_99 (sc : SC) (p0 : Nat) (p1 : Nat) (x2 : Int32) (c3 : Nat) (x4 : Int32) (h : AH) : Run sc n_X8_writeInstruction 99 [aD p0, aD p1, aI x2, aC c3, aI x4] none [] h = some (.inl none, h) := by
  exact q_ret (c := (none, h)) mt_X8_writeInstruction dX8_writeInstruction_99 rfl
theorem e_X8_writeInstruction_5 (sc : SC) (p0 : Nat) (p1 : Nat) (x2 : Int32) (v3 : AV) (v4 : AV) (d0 : Nat) (h : AH) : Run sc n_X8_writeInstruction 5 [aD p0, aD p1, aI x2, v3, v4] none [aC d0] h = Run sc n_X8_writeInstruction 9 [aD p0, aD p1, aI x2, aC d0, aI (nI 0)] none [] h := by
  refine (s_go mt_X8_writeInstruction dX8_writeInstruction_5 rfl).trans ?_
  refine (s_go mt_X8_writeInstruction dX8_writeInstruction_6 rfl).trans ?_
  refine (s_go mt_X8_writeInstruction dX8_writeInstruction_7 rfl).trans ?_
  exact rfl
theorem e_X8_writeInstruction_15 (sc : SC) (p0 : Nat) (p1 : Nat) (x2 : Int32) (c3 : Nat) (x4 : Int32) (y0 : Int32) (d1 : Nat) (h : AH) : Run sc n_X8_writeInstruction 15 [aD p0, aD p1, aI x2, aC c3, aI x4] none [aC d1, aI y0] h = bI (rOK sc h (aC d1) 101 = true) (bC (Call sc n_J0_length_8abf5 [aC d1] h) (fun v z => Run sc n_X8_writeInstruction 18 [aD p0, aD p1, aI x2, aC c3, aI x4] none (v.toList ++ [aI y0]) z) (fun E z => some (.inr E, z))) := by
  exact q_cV mt_X8_writeInstruction dX8_writeInstruction_15 rfl mt_J0_length_8abf5 rfl rfl rfl
theorem e_X8_writeInstruction_26 (sc : SC) (p0 : Nat) (p1 : Nat) (x2 : Int32) (c3 : Nat) (x4 : Int32) (q0 : Nat) (d1 : Nat) (h : AH) : Run sc n_X8_writeInstruction 26 [aD p0, aD p1, aI x2, aC c3, aI x4] none [aC d1, aD q0] h = bI (rOK sc h (aC d1) 101 = true) (bC (Call sc n_J0_charAt_5068e [aC d1, aI x4] h) (fun v z => Run sc n_X8_writeInstruction 31 [aD p0, aD p1, aI x2, aC c3, aI x4] none (v.toList ++ [aD q0]) z) (fun E z => some (.inr E, z))) := by
  refine (s_go mt_X8_writeInstruction dX8_writeInstruction_26 rfl).trans ?_
  exact q_cV mt_X8_writeInstruction dX8_writeInstruction_28 rfl mt_J0_charAt_5068e rfl rfl rfl
theorem e_X8_writeInstruction_45 (sc : SC) (p0 : Nat) (p1 : Nat) (x2 : Int32) (c3 : Nat) (x4 : Int32) (y0 : Int32) (h : AH) : Run sc n_X8_writeInstruction 45 [aD p0, aD p1, aI x2, aC c3, aI x4] none [aI y0] h = Run sc n_X8_writeInstruction (if y0 = 0 then 54 else 48) [aD p0, aD p1, aI x2, aC c3, aI x4] none [] h := by
  exact q_if mt_X8_writeInstruction dX8_writeInstruction_45 (fun _ _ _ _ => rfl) rfl
theorem e_X8_writeInstruction_69 (sc : SC) (p0 : Nat) (p1 : Nat) (x2 : Int32) (c3 : Nat) (x4 : Int32) (y0 : Int32) (h : AH) : Run sc n_X8_writeInstruction 69 [aD p0, aD p1, aI x2, aC c3, aI x4] none [aI y0] h = Run sc n_X8_writeInstruction (if y0 = (nI 45) then 93 else 74) [aD p0, aD p1, aI x2, aC c3, aI x4] none [] h := by
  refine (s_go mt_X8_writeInstruction dX8_writeInstruction_69 rfl).trans ?_
  exact q_icmp mt_X8_writeInstruction dX8_writeInstruction_71 (fun _ _ _ _ => rfl) rfl
theorem e_X8_writeInstruction_80 (sc : SC) (p0 : Nat) (p1 : Nat) (x2 : Int32) (c3 : Nat) (x4 : Int32) (h : AH) : Run sc n_X8_writeInstruction 80 [aD p0, aD p1, aI x2, aC c3, aI x4] none [] h = bI (rOK sc h (aD p1) 8 = true) (bC (Call sc n_X6_part [aD p1, aI x2, aI ((nI 1) + x4)] h) (fun v z => Run sc n_X8_writeInstruction 90 [aD p0, aD p1, aI x2, aC c3, aI x4] none (v.toList ++ [aD p0]) z) (fun E z => some (.inr E, z))) := by
  refine (s_go mt_X8_writeInstruction dX8_writeInstruction_80 rfl).trans ?_
  refine (s_go mt_X8_writeInstruction dX8_writeInstruction_81 rfl).trans ?_
  refine (s_go mt_X8_writeInstruction dX8_writeInstruction_82 rfl).trans ?_
  refine (s_go mt_X8_writeInstruction dX8_writeInstruction_83 rfl).trans ?_
  refine (s_go mt_X8_writeInstruction dX8_writeInstruction_84 rfl).trans ?_
  refine (s_go mt_X8_writeInstruction dX8_writeInstruction_86 rfl).trans ?_
  exact q_cV mt_X8_writeInstruction dX8_writeInstruction_87 rfl mt_X6_part rfl rfl rfl
theorem e_X8_writeInstruction_18 (sc : SC) (p0 : Nat) (p1 : Nat) (x2 : Int32) (c3 : Nat) (x4 : Int32) (y0 : Int32) (y1 : Int32) (h : AH) : Run sc n_X8_writeInstruction 18 [aD p0, aD p1, aI x2, aC c3, aI x4] none [aI y1, aI y0] h = Run sc n_X8_writeInstruction (if y1 ≤ y0 then 40 else 21) [aD p0, aD p1, aI x2, aC c3, aI x4] none [] h := by
  exact q_icmp mt_X8_writeInstruction dX8_writeInstruction_18 (fun _ _ _ _ => rfl) rfl
theorem e_X8_writeInstruction_31 (sc : SC) (p0 : Nat) (p1 : Nat) (x2 : Int32) (c3 : Nat) (x4 : Int32) (q0 : Nat) (y1 : Int32) (h : AH) : Run sc n_X8_writeInstruction 31 [aD p0, aD p1, aI x2, aC c3, aI x4] none [aI y1, aD q0] h = bI (rOK sc h (aD q0) 10 = true) (bC (Call sc n_X8_append [aD q0, aI y1] h) (fun v z => Run sc n_X8_writeInstruction 34 [aD p0, aD p1, aI x2, aC c3, aI x4] none (v.toList ++ []) z) (fun E z => some (.inr E, z))) := by
  exact q_cV mt_X8_writeInstruction dX8_writeInstruction_31 rfl mt_X8_append rfl rfl rfl
theorem e_X8_writeInstruction_90 (sc : SC) (p0 : Nat) (p1 : Nat) (x2 : Int32) (c3 : Nat) (x4 : Int32) (q0 : Nat) (y1 : Int32) (h : AH) : Run sc n_X8_writeInstruction 90 [aD p0, aD p1, aI x2, aC c3, aI x4] none [aI y1, aD q0] h = bI (rOK sc h (aD q0) 10 = true) (bC (Call sc n_X8_writeNumber [aD q0, aI y1] h) (fun v z => Run sc n_X8_writeInstruction 93 [aD p0, aD p1, aI x2, aC c3, aI x4] none (v.toList ++ []) z) (fun E z => some (.inr E, z))) := by
  exact q_cV mt_X8_writeInstruction dX8_writeInstruction_90 rfl mt_X8_writeNumber rfl rfl rfl
theorem e_X8_writeInstruction_34 (sc : SC) (p0 : Nat) (p1 : Nat) (x2 : Int32) (c3 : Nat) (x4 : Int32) (h : AH) : Run sc n_X8_writeInstruction 34 [aD p0, aD p1, aI x2, aC c3, aI x4] none [] h = Run sc n_X8_writeInstruction 9 [aD p0, aD p1, aI x2, aC c3, aI (x4 + nI 1)] none [] h := by
  refine (s_go mt_X8_writeInstruction dX8_writeInstruction_34 rfl).trans ?_
  refine (s_go mt_X8_writeInstruction dX8_writeInstruction_37 rfl).trans ?_
  exact rfl
/-! BranchSlotFiller$TextWriter.writeProgram(LBranchSlotFiller$Program;)I -/
theorem e_X8_writeProgram_0 (sc : SC) (p0 : Nat) (p1 : Nat) (v2 : AV) (h : AH) : Run sc n_X8_writeProgram 0 [aD p0, aD p1, v2] none [] h = bO (putF h p0 10 1 0 (aI (nI 0))) (fun z => Run sc n_X8_writeProgram 5 [aD p0, aD p1, v2] none [] z) := by
  refine (s_go mt_X8_writeProgram dX8_writeProgram_0 rfl).trans ?_
  refine (s_go mt_X8_writeProgram dX8_writeProgram_1 rfl).trans ?_
  exact q_putfield mt_X8_writeProgram dX8_writeProgram_2 rfl rfl rfl rfl
theorem e_X8_writeProgram_7 (sc : SC) (p0 : Nat) (p1 : Nat) (x2 : Int32) (h : AH) : Run sc n_X8_writeProgram 7 [aD p0, aD p1, aI x2] none [] h = bF (getF sc h (aD p1) 8 1) (fun z => Run sc n_X8_writeProgram 12 [aD p0, aD p1, aI x2] none [z, aI x2] h) := by
  refine (s_go mt_X8_writeProgram dX8_writeProgram_7 rfl).trans ?_
  refine (s_go mt_X8_writeProgram dX8_writeProgram_8 rfl).trans ?_
  exact q_getfield mt_X8_writeProgram dX8_writeProgram_9 rfl
theorem e_X8_writeProgram_15 (sc : SC) (p0 : Nat) (p1 : Nat) (x2 : Int32) (h : AH) : Run sc n_X8_writeProgram 15 [aD p0, aD p1, aI x2] none [] h = Run sc n_X8_writeProgram (if x2 ≤ 0 then 38 else 19) [aD p0, aD p1, aI x2] none [] h := by
  refine (s_go mt_X8_writeProgram dX8_writeProgram_15 rfl).trans ?_
  exact q_if mt_X8_writeProgram dX8_writeProgram_16 (fun _ _ _ _ => rfl) rfl
theorem e_X8_writeProgram_19 (sc : SC) (p0 : Nat) (p1 : Nat) (x2 : Int32) (h : AH) : Run sc n_X8_writeProgram 19 [aD p0, aD p1, aI x2] none [] h = bI (rOK sc h (aD p1) 8 = true) (bC (Call sc n_X6_isSlot [aD p1, aI x2] h) (fun v z => Run sc n_X8_writeProgram 25 [aD p0, aD p1, aI x2] none (v.toList ++ [aD p0]) z) (fun E z => some (.inr E, z))) := by
  refine (s_go mt_X8_writeProgram dX8_writeProgram_19 rfl).trans ?_
  refine (s_go mt_X8_writeProgram dX8_writeProgram_20 rfl).trans ?_
  refine (s_go mt_X8_writeProgram dX8_writeProgram_21 rfl).trans ?_
  exact q_cV mt_X8_writeProgram dX8_writeProgram_22 rfl mt_X6_isSlot rfl rfl rfl
theorem e_X8_writeProgram_28 (sc : SC) (p0 : Nat) (p1 : Nat) (x2 : Int32) (q0 : Nat) (h : AH) : Run sc n_X8_writeProgram 28 [aD p0, aD p1, aI x2] none [aD q0] h = Run sc n_X8_writeProgram 35 [aD p0, aD p1, aI x2] none [aI (nI 124), aD q0] h := by
  refine (s_go mt_X8_writeProgram dX8_writeProgram_28 rfl).trans ?_
  refine (s_go mt_X8_writeProgram dX8_writeProgram_30 rfl).trans ?_
  exact rfl
theorem e_X8_writeProgram_33 (sc : SC) (p0 : Nat) (p1 : Nat) (x2 : Int32) (q0 : Nat) (h : AH) : Run sc n_X8_writeProgram 33 [aD p0, aD p1, aI x2] none [aD q0] h = Run sc n_X8_writeProgram 35 [aD p0, aD p1, aI x2] none [aI (nI 59), aD q0] h := by
  refine (s_go mt_X8_writeProgram dX8_writeProgram_33 rfl).trans ?_
  exact rfl
theorem e_X8_writeProgram_35 (sc : SC) (p0 : Nat) (p1 : Nat) (x2 : Int32) (q0 : Nat) (y1 : Int32) (h : AH) : Run sc n_X8_writeProgram 35 [aD p0, aD p1, aI x2] none [aI y1, aD q0] h = bI (rOK sc h (aD q0) 10 = true) (bC (Call sc n_X8_append [aD q0, aI y1] h) (fun v z => Run sc n_X8_writeProgram 38 [aD p0, aD p1, aI x2] none (v.toList ++ []) z) (fun E z => some (.inr E, z))) := by
  exact q_cV mt_X8_writeProgram dX8_writeProgram_35 rfl mt_X8_append rfl rfl rfl
theorem e_X8_writeProgram_38 (sc : SC) (p0 : Nat) (p1 : Nat) (x2 : Int32) (h : AH) : Run sc n_X8_writeProgram 38 [aD p0, aD p1, aI x2] none [] h = bI (rOK sc h (aD p0) 10 = true) (bC (Call sc n_X8_writeInstruction [aD p0, aD p1, aI x2] h) (fun v z => Run sc n_X8_writeProgram 44 [aD p0, aD p1, aI x2] none (v.toList ++ []) z) (fun E z => some (.inr E, z))) := by
  refine (s_go mt_X8_writeProgram dX8_writeProgram_38 rfl).trans ?_
  refine (s_go mt_X8_writeProgram dX8_writeProgram_39 rfl).trans ?_
  refine (s_go mt_X8_writeProgram dX8_writeProgram_40 rfl).trans ?_
  exact q_cV mt_X8_writeProgram dX8_writeProgram_41 rfl mt_X8_writeInstruction rfl rfl rfl
theorem e_X8_writeProgram_50 (sc : SC) (p0 : Nat) (p1 : Nat) (x2 : Int32) (h : AH) : Run sc n_X8_writeProgram 50 [aD p0, aD p1, aI x2] none [] h = bF (getF sc h (aD p0) 10 1) (fun z => Run sc n_X8_writeProgram 54 [aD p0, aD p1, aI x2] none [z] h) := by
  refine (s_go mt_X8_writeProgram dX8_writeProgram_50 rfl).trans ?_
  exact q_getfield mt_X8_writeProgram dX8_writeProgram_51 rfl
theorem e_X8_writeProgram_5 (sc : SC) (p0 : Nat) (p1 : Nat) (v2 : AV) (h : AH) : Run sc n_X8_writeProgram 5 [aD p0, aD p1, v2] none [] h = Run sc n_X8_writeProgram 7 [aD p0, aD p1, aI (nI 0)] none [] h := by
  refine (s_go mt_X8_writeProgram dX8_writeProgram_5 rfl).trans ?_
  refine (s_go mt_X8_writeProgram dX8_writeProgram_6 rfl).trans ?_
  exact rfl
theorem e_X8_writeProgram_12 (sc : SC) (p0 : Nat) (p1 : Nat) (x2 : Int32) (y0 : Int32) (y1 : Int32) (h : AH) : Run sc n_X8_writeProgram 12 [aD p0, aD p1, aI x2] none [aI y1, aI y0] h = Run sc n_X8_writeProgram (if y1 ≤ y0 then 50 else 15) [aD p0, aD p1, aI x2] none [] h := by
  exact q_icmp mt_X8_writeProgram dX8_writeProgram_12 (fun _ _ _ _ => rfl) rfl
theorem e_X8_writeProgram_25 (sc : SC) (p0 : Nat) (p1 : Nat) (x2 : Int32) (q0 : Nat) (y1 : Int32) (h : AH) : Run sc n_X8_writeProgram 25 [aD p0, aD p1, aI x2] none [aI y1, aD q0] h = Run sc n_X8_writeProgram (if y1 = 0 then 33 else 28) [aD p0, aD p1, aI x2] none [aD q0] h := by
  exact q_if mt_X8_writeProgram dX8_writeProgram_25 (fun _ _ _ _ => rfl) rfl
theorem e_X8_writeProgram_44 (sc : SC) (p0 : Nat) (p1 : Nat) (x2 : Int32) (h : AH) : Run sc n_X8_writeProgram 44 [aD p0, aD p1, aI x2] none [] h = Run sc n_X8_writeProgram 7 [aD p0, aD p1, aI (x2 + nI 1)] none [] h := by
  refine (s_go mt_X8_writeProgram dX8_writeProgram_44 rfl).trans ?_
  refine (s_go mt_X8_writeProgram dX8_writeProgram_47 rfl).trans ?_
  exact rfl
theorem e_X8_writeProgram_54 (sc : SC) (p0 : Nat) (p1 : Nat) (x2 : Int32) (y0 : Int32) (h : AH) : Run sc n_X8_writeProgram 54 [aD p0, aD p1, aI x2] none [aI y0] h = some (.inl (some (aI y0)), h) := by
  exact q_ret (c := (some (aI y0), h)) mt_X8_writeProgram dX8_writeProgram_54 rfl
/-! BranchSlotFiller$Flow.<init>(LBranchSlotFiller$Program;)V -/
theorem e_X2_init_0 (sc : SC) (p0 : Nat) (p1 : Nat) (h : AH) : Run sc n_X2_init 0 [aD p0, aD p1] none [] h = bI (¬ ((nI 61) < 0 ∨ 67108864 < (nI 61).toNatClampNeg)) (Run sc n_X2_init 9 [aD p0, aD p1] none [aD h.1.length, aD p0] (hpush h (oI 0 (nI 61).toNatClampNeg (fun _ => 0)))) := by
  refine (s_go mt_X2_init dX2_init_0 rfl).trans ?_
  refine (s_go mt_X2_init dX2_init_1 rfl).trans ?_
  refine (s_go mt_X2_init dX2_init_4 rfl).trans ?_
  refine (s_go mt_X2_init dX2_init_5 rfl).trans ?_
  exact q_newarray (mk := fun m => oI 0 m (fun _ => 0)) mt_X2_init dX2_init_7 (fun _ => rfl)
theorem e_X2_init_9 (sc : SC) (p0 : Nat) (p1 : Nat) (q0 : Nat) (q1 : Nat) (h : AH) : Run sc n_X2_init 9 [aD p0, aD p1] none [aD q1, aD q0] h = bO (putF h q0 5 1 3 (aD q1)) (fun z => Run sc n_X2_init 12 [aD p0, aD p1] none [] z) := by
  exact q_putfield mt_X2_init dX2_init_9 rfl rfl rfl rfl
theorem e_X2_init_12 (sc : SC) (p0 : Nat) (p1 : Nat) (h : AH) : Run sc n_X2_init 12 [aD p0, aD p1] none [] h = bI (¬ ((nI 60) < 0 ∨ 67108864 < (nI 60).toNatClampNeg)) (Run sc n_X2_init 17 [aD p0, aD p1] none [aD h.1.length, aD p0] (hpush h (oI 0 (nI 60).toNatClampNeg (fun _ => 0)))) := by
  refine (s_go mt_X2_init dX2_init_12 rfl).trans ?_
  refine (s_go mt_X2_init dX2_init_13 rfl).trans ?_
  exact q_newarray (mk := fun m => oI 0 m (fun _ => 0)) mt_X2_init dX2_init_15 (fun _ => rfl)
theorem e_X2_init_17 (sc : SC) (p0 : Nat) (p1 : Nat) (q0 : Nat) (q1 : Nat) (h : AH) : Run sc n_X2_init 17 [aD p0, aD p1] none [aD q1, aD q0] h = bO (putF h q0 5 2 3 (aD q1)) (fun z => Run sc n_X2_init 20 [aD p0, aD p1] none [] z) := by
  exact q_putfield mt_X2_init dX2_init_17 rfl rfl rfl rfl
theorem e_X2_init_20 (sc : SC) (p0 : Nat) (p1 : Nat) (h : AH) : Run sc n_X2_init 20 [aD p0, aD p1] none [] h = bI (¬ ((nI 60) < 0 ∨ 67108864 < (nI 60).toNatClampNeg)) (Run sc n_X2_init 25 [aD p0, aD p1] none [aD h.1.length, aD p0] (hpush h (oI 0 (nI 60).toNatClampNeg (fun _ => 0)))) := by
  refine (s_go mt_X2_init dX2_init_20 rfl).trans ?_
  refine (s_go mt_X2_init dX2_init_21 rfl).trans ?_
  exact q_newarray (mk := fun m => oI 0 m (fun _ => 0)) mt_X2_init dX2_init_23 (fun _ => rfl)
theorem e_X2_init_25 (sc : SC) (p0 : Nat) (p1 : Nat) (q0 : Nat) (q1 : Nat) (h : AH) : Run sc n_X2_init 25 [aD p0, aD p1] none [aD q1, aD q0] h = bO (putF h q0 5 3 3 (aD q1)) (fun z => Run sc n_X2_init 28 [aD p0, aD p1] none [] z) := by
  exact q_putfield mt_X2_init dX2_init_25 rfl rfl rfl rfl
theorem e_X2_init_28 (sc : SC) (p0 : Nat) (p1 : Nat) (h : AH) : Run sc n_X2_init 28 [aD p0, aD p1] none [] h = bI (¬ ((nI 61) < 0 ∨ 67108864 < (nI 61).toNatClampNeg)) (Run sc n_X2_init 33 [aD p0, aD p1] none [aD h.1.length, aD p0] (hpush h (oI 3 (nI 61).toNatClampNeg (fun _ => 0)))) := by
  refine (s_go mt_X2_init dX2_init_28 rfl).trans ?_
  refine (s_go mt_X2_init dX2_init_29 rfl).trans ?_
  exact q_newarray (mk := fun m => oI 3 m (fun _ => 0)) mt_X2_init dX2_init_31 (fun _ => rfl)
theorem e_X2_init_33 (sc : SC) (p0 : Nat) (p1 : Nat) (q0 : Nat) (q1 : Nat) (h : AH) : Run sc n_X2_init 33 [aD p0, aD p1] none [aD q1, aD q0] h = bO (putF h q0 5 4 3 (aD q1)) (fun z => Run sc n_X2_init 36 [aD p0, aD p1] none [] z) := by
  exact q_putfield mt_X2_init dX2_init_33 rfl rfl rfl rfl
theorem e_X2_init_36 (sc : SC) (p0 : Nat) (p1 : Nat) (h : AH) : Run sc n_X2_init 36 [aD p0, aD p1] none [] h = bO (putF h p0 5 0 3 (aD p1)) (fun z => Run sc n_X2_init 41 [aD p0, aD p1] none [] z) := by
  refine (s_go mt_X2_init dX2_init_36 rfl).trans ?_
  refine (s_go mt_X2_init dX2_init_37 rfl).trans ?_
  exact q_putfield mt_X2_init dX2_init_38 rfl rfl rfl rfl
theorem e_X2_init_41 (sc : SC) (p0 : Nat) (p1 : Nat) (h : AH) : Run sc n_X2_init 41 [aD p0, aD p1] none [] h = some (.inl none, h) := by
  exact q_ret (c := (none, h)) mt_X2_init dX2_init_41 rfl
/-! BranchSlotFiller$Flow.reach(I)Z -/
theorem e_X2_reach_0 (sc : SC) (p0 : Nat) (x1 : Int32) (v2 : AV) (h : AH) : Run sc n_X2_reach 0 [aD p0, aI x1, v2] none [] h = bF (getF sc h (aD p0) 5 4) (fun z => Run sc n_X2_reach 4 [aD p0, aI x1, v2] none [z] h) := by
  refine (s_go mt_X2_reach dX2_reach_0 rfl).trans ?_
  exact q_getfield mt_X2_reach dX2_reach_1 rfl
theorem e_X2_reach_9 (sc : SC) (p0 : Nat) (x1 : Int32) (v2 : AV) (h : AH) : Run sc n_X2_reach 9 [aD p0, aI x1, v2] none [] h = Run sc n_X2_reach 14 [aD p0, aI x1, v2] none [aI (nI 1)] h := by
  refine (s_go mt_X2_reach dX2_reach_9 rfl).trans ?_
  refine (s_go mt_X2_reach dX2_reach_10 rfl).trans ?_
  exact rfl
theorem e_X2_reach_13 (sc : SC) (p0 : Nat) (x1 : Int32) (v2 : AV) (h : AH) : Run sc n_X2_reach 13 [aD p0, aI x1, v2] none [] h = Run sc n_X2_reach 14 [aD p0, aI x1, v2] none [aI (nI 0)] h := by
  refine (s_go mt_X2_reach dX2_reach_13 rfl).trans ?_
  exact rfl
theorem e_X2_reach_14 (sc : SC) (p0 : Nat) (x1 : Int32) (v2 : AV) (y0 : Int32) (h : AH) : Run sc n_X2_reach 14 [aD p0, aI x1, v2] none [aI y0] h = bF (getF sc h (aD p0) 5 4) (fun z => Run sc n_X2_reach 19 [aD p0, aI x1, aI y0] none [z] h) := by
  refine (s_go mt_X2_reach dX2_reach_14 rfl).trans ?_
  refine (s_go mt_X2_reach dX2_reach_15 rfl).trans ?_
  exact q_getfield mt_X2_reach dX2_reach_16 rfl
theorem e_X2_reach_4 (sc : SC) (p0 : Nat) (x1 : Int32) (v2 : AV) (q0 : Nat) (h : AH) : Run sc n_X2_reach 4 [aD p0, aI x1, v2] none [aD q0] h = bO (ldI sc h (fun t => t == 2 || t == 3) (aD q0) x1) (fun z => Run sc n_X2_reach 6 [aD p0, aI x1, v2] none [aI z] h) := by
  refine (s_go mt_X2_reach dX2_reach_4 rfl).trans ?_
  exact q_baload mt_X2_reach dX2_reach_5
theorem e_X2_reach_19 (sc : SC) (p0 : Nat) (x1 : Int32) (x2 : Int32) (q0 : Nat) (h : AH) : Run sc n_X2_reach 19 [aD p0, aI x1, aI x2] none [aD q0] h = bO (stI h (fun t => t == 2 || t == 3) q0 x1 (nI 1)) (fun z => Run sc n_X2_reach 22 [aD p0, aI x1, aI x2] none [] z) := by
  refine (s_go mt_X2_reach dX2_reach_19 rfl).trans ?_
  refine (s_go mt_X2_reach dX2_reach_20 rfl).trans ?_
  exact q_bastore mt_X2_reach dX2_reach_21
theorem e_X2_reach_6 (sc : SC) (p0 : Nat) (x1 : Int32) (v2 : AV) (y0 : Int32) (h : AH) : Run sc n_X2_reach 6 [aD p0, aI x1, v2] none [aI y0] h = Run sc n_X2_reach (if ¬ y0 = 0 then 13 else 9) [aD p0, aI x1, v2] none [] h := by
  exact q_if mt_X2_reach dX2_reach_6 (fun _ _ _ _ => rfl) rfl
theorem e_X2_reach_22 (sc : SC) (p0 : Nat) (x1 : Int32) (x2 : Int32) (h : AH) : Run sc n_X2_reach 22 [aD p0, aI x1, aI x2] none [] h = bI (retK (some FieldType.boolean) x2 = true) (some (.inl (some (aI x2)), h)) := by
  refine (s_go mt_X2_reach dX2_reach_22 rfl).trans ?_
  exact q_iret mt_X2_reach dX2_reach_23
/-! BranchSlotFiller$Flow.growReached()Z -/
theorem e_X2_growReached_0 (sc : SC) (p0 : Nat) (v1 : AV) (v2 : AV) (v3 : AV) (h : AH) : Run sc n_X2_growReached 0 [aD p0, v1, v2, v3] none [] h = Run sc n_X2_growReached 4 [aD p0, aI (nI 0), aI (nI 0), v3] none [] h := by
  refine (s_go mt_X2_growReached dX2_growReached_0 rfl).trans ?_
  refine (s_go mt_X2_growReached dX2_growReached_1 rfl).trans ?_
  refine (s_go mt_X2_growReached dX2_growReached_2 rfl).trans ?_
  refine (s_go mt_X2_growReached dX2_growReached_3 rfl).trans ?_
  exact rfl
theorem e_X2_growReached_4 (sc : SC) (p0 : Nat) (x1 : Int32) (x2 : Int32) (v3 : AV) (h : AH) : Run sc n_X2_growReached 4 [aD p0, aI x1, aI x2, v3] none [] h = bF (getF sc h (aD p0) 5 0) (fun z => Run sc n_X2_growReached 9 [aD p0, aI x1, aI x2, v3] none [z, aI x2] h) := by
  refine (s_go mt_X2_growReached dX2_growReached_4 rfl).trans ?_
  refine (s_go mt_X2_growReached dX2_growReached_5 rfl).trans ?_
  exact q_getfield mt_X2_growReached dX2_growReached_6 rfl
theorem e_X2_growReached_15 (sc : SC) (p0 : Nat) (x1 : Int32) (x2 : Int32) (v3 : AV) (h : AH) : Run sc n_X2_growReached 15 [aD p0, aI x1, aI x2, v3] none [] h = bF (getF sc h (aD p0) 5 4) (fun z => Run sc n_X2_growReached 19 [aD p0, aI x1, aI x2, v3] none [z] h) := by
  refine (s_go mt_X2_growReached dX2_growReached_15 rfl).trans ?_
  exact q_getfield mt_X2_growReached dX2_growReached_16 rfl
theorem e_X2_growReached_24 (sc : SC) (p0 : Nat) (x1 : Int32) (x2 : Int32) (v3 : AV) (h : AH) : Run sc n_X2_growReached 24 [aD p0, aI x1, aI x2, v3] none [] h = Run sc n_X2_growReached 129 [aD p0, aI x1, aI x2, v3] none [] h := by
  refine (s_go mt_X2_growReached dX2_growReached_24 rfl).trans ?_
  exact rfl
theorem e_X2_growReached_27 (sc : SC) (p0 : Nat) (x1 : Int32) (x2 : Int32) (v3 : AV) (h : AH) : Run sc n_X2_growReached 27 [aD p0, aI x1, aI x2, v3] none [] h = bF (getF sc h (aD p0) 5 0) (fun z => Run sc n_X2_growReached 31 [aD p0, aI x1, aI x2, v3] none [z] h) := by
  refine (s_go mt_X2_growReached dX2_growReached_27 rfl).trans ?_
  exact q_getfield mt_X2_growReached dX2_growReached_28 rfl
theorem e_X2_growReached_43 (sc : SC) (p0 : Nat) (x1 : Int32) (x2 : Int32) (c3 : Nat) (h : AH) : Run sc n_X2_growReached 43 [aD p0, aI x1, aI x2, aC c3] none [] h = bF (getF sc h (aD p0) 5 0) (fun z => Run sc n_X2_growReached 48 [aD p0, aI x1, aI x2, aC c3] none [z, aD p0] h) := by
  refine (s_go mt_X2_growReached dX2_growReached_43 rfl).trans ?_
  refine (s_go mt_X2_growReached dX2_growReached_44 rfl).trans ?_
  exact q_getfield mt_X2_growReached dX2_growReached_45 rfl
theorem e_X2_growReached_58 (sc : SC) (p0 : Nat) (x1 : Int32) (x2 : Int32) (c3 : Nat) (h : AH) : Run sc n_X2_growReached 58 [aD p0, aI x1, aI x2, aC c3] none [] h = Run sc n_X2_growReached (if x1 = 0 then 66 else 62) [aD p0, aI x1, aI x2, aC c3] none [] h := by
  refine (s_go mt_X2_growReached dX2_growReached_58 rfl).trans ?_
  exact q_if mt_X2_growReached dX2_growReached_59 (fun _ _ _ _ => rfl) rfl
theorem e_X2_growReached_62 (sc : SC) (p0 : Nat) (x1 : Int32) (x2 : Int32) (c3 : Nat) (h : AH) : Run sc n_X2_growReached 62 [aD p0, aI x1, aI x2, aC c3] none [] h = Run sc n_X2_growReached 67 [aD p0, aI x1, aI x2, aC c3] none [aI (nI 1)] h := by
  refine (s_go mt_X2_growReached dX2_growReached_62 rfl).trans ?_
  refine (s_go mt_X2_growReached dX2_growReached_63 rfl).trans ?_
  exact rfl
theorem e_X2_growReached_66 (sc : SC) (p0 : Nat) (x1 : Int32) (x2 : Int32) (c3 : Nat) (h : AH) : Run sc n_X2_growReached 66 [aD p0, aI x1, aI x2, aC c3] none [] h = Run sc n_X2_growReached 67 [aD p0, aI x1, aI x2, aC c3] none [aI (nI 0)] h := by
  refine (s_go mt_X2_growReached dX2_growReached_66 rfl).trans ?_
  exact rfl
theorem e_X2_growReached_67 (sc : SC) (p0 : Nat) (x1 : Int32) (x2 : Int32) (c3 : Nat) (y0 : Int32) (h : AH) : Run sc n_X2_growReached 67 [aD p0, aI x1, aI x2, aC c3] none [aI y0] h = Run sc n_X2_growReached 68 [aD p0, aI y0, aI x2, aC c3] none [] h := by
  refine (s_go mt_X2_growReached dX2_growReached_67 rfl).trans ?_
  exact rfl
theorem e_X2_growReached_68 (sc : SC) (p0 : Nat) (x1 : Int32) (x2 : Int32) (c3 : Nat) (h : AH) : Run sc n_X2_growReached 68 [aD p0, aI x1, aI x2, aC c3] none [] h = bF (getF sc h (aC c3) 100 7) (fun z => Run sc n_X2_growReached 72 [aD p0, aI x1, aI x2, aC c3] none [z] h) := by
  refine (s_go mt_X2_growReached dX2_growReached_68 rfl).trans ?_
  exact q_getfield mt_X2_growReached dX2_growReached_69 rfl
theorem e_X2_growReached_75 (sc : SC) (p0 : Nat) (x1 : Int32) (x2 : Int32) (c3 : Nat) (h : AH) : Run sc n_X2_growReached 75 [aD p0, aI x1, aI x2, aC c3] none [] h = bI (rOK sc h (aD p0) 5 = true) (bC (Call sc n_X2_reach [aD p0, aI (x2 + (nI 2))] h) (fun v z => Run sc n_X2_growReached 82 [aD p0, aI x1, aI x2, aC c3] none (v.toList ++ []) z) (fun E z => some (.inr E, z))) := by
  refine (s_go mt_X2_growReached dX2_growReached_75 rfl).trans ?_
  refine (s_go mt_X2_growReached dX2_growReached_76 rfl).trans ?_
  refine (s_go mt_X2_growReached dX2_growReached_77 rfl).trans ?_
  refine (s_go mt_X2_growReached dX2_growReached_78 rfl).trans ?_
  exact q_cV mt_X2_growReached dX2_growReached_79 rfl mt_X2_reach rfl rfl rfl
theorem e_X2_growReached_85 (sc : SC) (p0 : Nat) (x1 : Int32) (x2 : Int32) (c3 : Nat) (h : AH) : Run sc n_X2_growReached 85 [aD p0, aI x1, aI x2, aC c3] none [] h = Run sc n_X2_growReached (if x1 = 0 then 93 else 89) [aD p0, aI x1, aI x2, aC c3] none [] h := by
  refine (s_go mt_X2_growReached dX2_growReached_85 rfl).trans ?_
  exact q_if mt_X2_growReached dX2_growReached_86 (fun _ _ _ _ => rfl) rfl
theorem e_X2_growReached_89 (sc : SC) (p0 : Nat) (x1 : Int32) (x2 : Int32) (c3 : Nat) (h : AH) : Run sc n_X2_growReached 89 [aD p0, aI x1, aI x2, aC c3] none [] h = Run sc n_X2_growReached 94 [aD p0, aI x1, aI x2, aC c3] none [aI (nI 1)] h := by
  refine (s_go mt_X2_growReached dX2_growReached_89 rfl).trans ?_
  refine (s_go mt_X2_growReached dX2_growReached_90 rfl).trans ?_
  exact rfl
theorem e_X2_growReached_93 (sc : SC) (p0 : Nat) (x1 : Int32) (x2 : Int32) (c3 : Nat) (h : AH) : Run sc n_X2_growReached 93 [aD p0, aI x1, aI x2, aC c3] none [] h = Run sc n_X2_growReached 94 [aD p0, aI x1, aI x2, aC c3] none [aI (nI 0)] h := by
  refine (s_go mt_X2_growReached dX2_growReached_93 rfl).trans ?_
  exact rfl
theorem e_X2_growReached_94 (sc : SC) (p0 : Nat) (x1 : Int32) (x2 : Int32) (c3 : Nat) (y0 : Int32) (h : AH) : Run sc n_X2_growReached 94 [aD p0, aI x1, aI x2, aC c3] none [aI y0] h = Run sc n_X2_growReached 95 [aD p0, aI y0, aI x2, aC c3] none [] h := by
  refine (s_go mt_X2_growReached dX2_growReached_94 rfl).trans ?_
  exact rfl
theorem e_X2_growReached_95 (sc : SC) (p0 : Nat) (x1 : Int32) (x2 : Int32) (c3 : Nat) (h : AH) : Run sc n_X2_growReached 95 [aD p0, aI x1, aI x2, aC c3] none [] h = bF (getF sc h (aC c3) 100 6) (fun z => Run sc n_X2_growReached 99 [aD p0, aI x1, aI x2, aC c3] none [z] h) := by
  refine (s_go mt_X2_growReached dX2_growReached_95 rfl).trans ?_
  exact q_getfield mt_X2_growReached dX2_growReached_96 rfl
theorem e_X2_growReached_102 (sc : SC) (p0 : Nat) (x1 : Int32) (x2 : Int32) (c3 : Nat) (h : AH) : Run sc n_X2_growReached 102 [aD p0, aI x1, aI x2, aC c3] none [] h = bI (1 ≤ c3 ∧ c3 < 13 ∧ 1 ≤ 12 ∧ 12 < 13) (Run sc n_X2_growReached (if c3 = 12 then 129 else 109) [aD p0, aI x1, aI x2, aC c3] none [] h) := by
  refine (s_go mt_X2_growReached dX2_growReached_102 rfl).trans ?_
  refine (s_go mt_X2_growReached dX2_growReached_103 rfl).trans ?_
  exact q_acmpeq mt_X2_growReached dX2_growReached_106 rfl
theorem e_X2_growReached_109 (sc : SC) (p0 : Nat) (x1 : Int32) (x2 : Int32) (c3 : Nat) (h : AH) : Run sc n_X2_growReached 109 [aD p0, aI x1, aI x2, aC c3] none [] h = bI (rOK sc h (aD p0) 5 = true) (bC (Call sc n_X2_reach [aD p0, aI (x2 + (nI 1))] h) (fun v z => Run sc n_X2_growReached 116 [aD p0, aI x1, aI x2, aC c3] none (v.toList ++ []) z) (fun E z => some (.inr E, z))) := by
  refine (s_go mt_X2_growReached dX2_growReached_109 rfl).trans ?_
  refine (s_go mt_X2_growReached dX2_growReached_110 rfl).trans ?_
  refine (s_go mt_X2_growReached dX2_growReached_111 rfl).trans ?_
  refine (s_go mt_X2_growReached dX2_growReached_112 rfl).trans ?_
  exact q_cV mt_X2_growReached dX2_growReached_113 rfl mt_X2_reach rfl rfl rfl
theorem e_X2_growReached_119 (sc : SC) (p0 : Nat) (x1 : Int32) (x2 : Int32) (c3 : Nat) (h : AH) : Run sc n_X2_growReached 119 [aD p0, aI x1, aI x2, aC c3] none [] h = Run sc n_X2_growReached (if x1 = 0 then 127 else 123) [aD p0, aI x1, aI x2, aC c3] none [] h := by
  refine (s_go mt_X2_growReached dX2_growReached_119 rfl).trans ?_
  exact q_if mt_X2_growReached dX2_growReached_120 (fun _ _ _ _ => rfl) rfl
theorem e_X2_growReached_123 (sc : SC) (p0 : Nat) (x1 : Int32) (x2 : Int32) (c3 : Nat) (h : AH) : Run sc n_X2_growReached 123 [aD p0, aI x1, aI x2, aC c3] none [] h = Run sc n_X2_growReached 128 [aD p0, aI x1, aI x2, aC c3] none [aI (nI 1)] h := by
  refine (s_go mt_X2_growReached dX2_growReached_123 rfl).trans ?_
  refine (s_go mt_X2_growReached dX2_growReached_124 rfl).trans ?_
  exact rfl
theorem e_X2_growReached_127 (sc : SC) (p0 : Nat) (x1 : Int32) (x2 : Int32) (c3 : Nat) (h : AH) : Run sc n_X2_growReached 127 [aD p0, aI x1, aI x2, aC c3] none [] h = Run sc n_X2_growReached 128 [aD p0, aI x1, aI x2, aC c3] none [aI (nI 0)] h := by
  refine (s_go mt_X2_growReached dX2_growReached_127 rfl).trans ?_
  exact rfl
theorem e_X2_growReached_128 (sc : SC) (p0 : Nat) (x1 : Int32) (x2 : Int32) (c3 : Nat) (y0 : Int32) (h : AH) : Run sc n_X2_growReached 128 [aD p0, aI x1, aI x2, aC c3] none [aI y0] h = Run sc n_X2_growReached 129 [aD p0, aI y0, aI x2, aC c3] none [] h := by
  refine (s_go mt_X2_growReached dX2_growReached_128 rfl).trans ?_
  exact rfl
theorem e_X2_growReached_129 (sc : SC) (p0 : Nat) (x1 : Int32) (x2 : Int32) (v3 : AV) (h : AH) : Run sc n_X2_growReached 129 [aD p0, aI x1, aI x2, v3] none [] h = Run sc n_X2_growReached 4 [aD p0, aI x1, aI (x2 + nI 1), v3] none [] h := by
  refine (s_go mt_X2_growReached dX2_growReached_129 rfl).trans ?_
  refine (s_go mt_X2_growReached dX2_growReached_132 rfl).trans ?_
  exact rfl
theorem e_X2_growReached_135 (sc : SC) (p0 : Nat) (x1 : Int32) (x2 : Int32) (v3 : AV) (h : AH) : Run sc n_X2_growReached 135 [aD p0, aI x1, aI x2, v3] none [] h = bI (retK (some FieldType.boolean) x1 = true) (some (.inl (some (aI x1)), h)) := by
  refine (s_go mt_X2_growReached dX2_growReached_135 rfl).trans ?_
  exact q_iret mt_X2_growReached dX2_growReached_136
theorem e_X2_growReached_9 (sc : SC) (p0 : Nat) (x1 : Int32) (x2 : Int32) (v3 : AV) (y0 : Int32) (q1 : Nat) (h : AH) : Run sc n_X2_growReached 9 [aD p0, aI x1, aI x2, v3] none [aD q1, aI y0] h = bF (getF sc h (aD q1) 8 1) (fun z => Run sc n_X2_growReached 12 [aD p0, aI x1, aI x2, v3] none [z, aI y0] h) := by
  exact q_getfield mt_X2_growReached dX2_growReached_9 rfl
theorem e_X2_growReached_19 (sc : SC) (p0 : Nat) (x1 : Int32) (x2 : Int32) (v3 : AV) (q0 : Nat) (h : AH) : Run sc n_X2_growReached 19 [aD p0, aI x1, aI x2, v3] none [aD q0] h = bO (ldI sc h (fun t => t == 2 || t == 3) (aD q0) x2) (fun z => Run sc n_X2_growReached 21 [aD p0, aI x1, aI x2, v3] none [aI z] h) := by
  refine (s_go mt_X2_growReached dX2_growReached_19 rfl).trans ?_
  exact q_baload mt_X2_growReached dX2_growReached_20
theorem e_X2_growReached_31 (sc : SC) (p0 : Nat) (x1 : Int32) (x2 : Int32) (v3 : AV) (q0 : Nat) (h : AH) : Run sc n_X2_growReached 31 [aD p0, aI x1, aI x2, v3] none [aD q0] h = bI (rOK sc h (aD q0) 8 = true) (bC (Call sc n_X6_kind [aD q0, aI x2] h) (fun v z => Run sc n_X2_growReached 35 [aD p0, aI x1, aI x2, v3] none (v.toList ++ []) z) (fun E z => some (.inr E, z))) := by
  refine (s_go mt_X2_growReached dX2_growReached_31 rfl).trans ?_
  exact q_cV mt_X2_growReached dX2_growReached_32 rfl mt_X6_kind rfl rfl rfl
theorem e_X2_growReached_48 (sc : SC) (p0 : Nat) (x1 : Int32) (x2 : Int32) (c3 : Nat) (q0 : Nat) (q1 : Nat) (h : AH) : Run sc n_X2_growReached 48 [aD p0, aI x1, aI x2, aC c3] none [aD q1, aD q0] h = bI (rOK sc h (aD q1) 8 = true) (bC (Call sc n_X6_target [aD q1, aI x2] h) (fun v z => Run sc n_X2_growReached 52 [aD p0, aI x1, aI x2, aC c3] none (v.toList ++ [aD q0]) z) (fun E z => some (.inr E, z))) := by
  refine (s_go mt_X2_growReached dX2_growReached_48 rfl).trans ?_
  exact q_cV mt_X2_growReached dX2_growReached_49 rfl mt_X6_target rfl rfl rfl
theorem e_X2_growReached_72 (sc : SC) (p0 : Nat) (x1 : Int32) (x2 : Int32) (c3 : Nat) (y0 : Int32) (h : AH) : Run sc n_X2_growReached 72 [aD p0, aI x1, aI x2, aC c3] none [aI y0] h = Run sc n_X2_growReached (if y0 = 0 then 95 else 75) [aD p0, aI x1, aI x2, aC c3] none [] h := by
  exact q_if mt_X2_growReached dX2_growReached_72 (fun _ _ _ _ => rfl) rfl
theorem e_X2_growReached_82 (sc : SC) (p0 : Nat) (x1 : Int32) (x2 : Int32) (c3 : Nat) (y0 : Int32) (h : AH) : Run sc n_X2_growReached 82 [aD p0, aI x1, aI x2, aC c3] none [aI y0] h = Run sc n_X2_growReached (if ¬ y0 = 0 then 89 else 85) [aD p0, aI x1, aI x2, aC c3] none [] h := by
  exact q_if mt_X2_growReached dX2_growReached_82 (fun _ _ _ _ => rfl) rfl
theorem e_X2_growReached_99 (sc : SC) (p0 : Nat) (x1 : Int32) (x2 : Int32) (c3 : Nat) (y0 : Int32) (h : AH) : Run sc n_X2_growReached 99 [aD p0, aI x1, aI x2, aC c3] none [aI y0] h = Run sc n_X2_growReached (if ¬ y0 = 0 then 129 else 102) [aD p0, aI x1, aI x2, aC c3] none [] h := by
  exact q_if mt_X2_growReached dX2_growReached_99 (fun _ _ _ _ => rfl) rfl
theorem e_X2_growReached_116 (sc : SC) (p0 : Nat) (x1 : Int32) (x2 : Int32) (c3 : Nat) (y0 : Int32) (h : AH) : Run sc n_X2_growReached 116 [aD p0, aI x1, aI x2, aC c3] none [aI y0] h = Run sc n_X2_growReached (if ¬ y0 = 0 then 123 else 119) [aD p0, aI x1, aI x2, aC c3] none [] h := by
  exact q_if mt_X2_growReached dX2_growReached_116 (fun _ _ _ _ => rfl) rfl
theorem e_X2_growReached_12 (sc : SC) (p0 : Nat) (x1 : Int32) (x2 : Int32) (v3 : AV) (y0 : Int32) (y1 : Int32) (h : AH) : Run sc n_X2_growReached 12 [aD p0, aI x1, aI x2, v3] none [aI y1, aI y0] h = Run sc n_X2_growReached (if y1 ≤ y0 then 135 else 15) [aD p0, aI x1, aI x2, v3] none [] h := by
  exact q_icmp mt_X2_growReached dX2_growReached_12 (fun _ _ _ _ => rfl) rfl
theorem e_X2_growReached_21 (sc : SC) (p0 : Nat) (x1 : Int32) (x2 : Int32) (v3 : AV) (y0 : Int32) (h : AH) : Run sc n_X2_growReached 21 [aD p0, aI x1, aI x2, v3] none [aI y0] h = Run sc n_X2_growReached (if ¬ y0 = 0 then 27 else 24) [aD p0, aI x1, aI x2, v3] none [] h := by
  exact q_if mt_X2_growReached dX2_growReached_21 (fun _ _ _ _ => rfl) rfl
theorem e_X2_growReached_35 (sc : SC) (p0 : Nat) (x1 : Int32) (x2 : Int32) (v3 : AV) (d0 : Nat) (h : AH) : Run sc n_X2_growReached 35 [aD p0, aI x1, aI x2, v3] none [aC d0] h = bF (getF sc h (aC d0) 100 6) (fun z => Run sc n_X2_growReached 40 [aD p0, aI x1, aI x2, aC d0] none [z] h) := by
  refine (s_go mt_X2_growReached dX2_growReached_35 rfl).trans ?_
  refine (s_go mt_X2_growReached dX2_growReached_36 rfl).trans ?_
  exact q_getfield mt_X2_growReached dX2_growReached_37 rfl
theorem e_X2_growReached_52 (sc : SC) (p0 : Nat) (x1 : Int32) (x2 : Int32) (c3 : Nat) (q0 : Nat) (y1 : Int32) (h : AH) : Run sc n_X2_growReached 52 [aD p0, aI x1, aI x2, aC c3] none [aI y1, aD q0] h = bI (rOK sc h (aD q0) 5 = true) (bC (Call sc n_X2_reach [aD q0, aI y1] h) (fun v z => Run sc n_X2_growReached 55 [aD p0, aI x1, aI x2, aC c3] none (v.toList ++ []) z) (fun E z => some (.inr E, z))) := by
  exact q_cV mt_X2_growReached dX2_growReached_52 rfl mt_X2_reach rfl rfl rfl
theorem e_X2_growReached_40 (sc : SC) (p0 : Nat) (x1 : Int32) (x2 : Int32) (c3 : Nat) (y0 : Int32) (h : AH) : Run sc n_X2_growReached 40 [aD p0, aI x1, aI x2, aC c3] none [aI y0] h = Run sc n_X2_growReached (if y0 = 0 then 68 else 43) [aD p0, aI x1, aI x2, aC c3] none [] h := by
  exact q_if mt_X2_growReached dX2_growReached_40 (fun _ _ _ _ => rfl) rfl
theorem e_X2_growReached_55 (sc : SC) (p0 : Nat) (x1 : Int32) (x2 : Int32) (c3 : Nat) (y0 : Int32) (h : AH) : Run sc n_X2_growReached 55 [aD p0, aI x1, aI x2, aC c3] none [aI y0] h = Run sc n_X2_growReached (if ¬ y0 = 0 then 62 else 58) [aD p0, aI x1, aI x2, aC c3] none [] h := by
  exact q_if mt_X2_growReached dX2_growReached_55 (fun _ _ _ _ => rfl) rfl
/-! BranchSlotFiller$Flow.unreachable()I -/
theorem e_X2_unreachable_0 (sc : SC) (p0 : Nat) (v1 : AV) (v2 : AV) (v3 : AV) (h : AH) : Run sc n_X2_unreachable 0 [aD p0, v1, v2, v3] none [] h = Run sc n_X2_unreachable 2 [aD p0, aI (nI 0), v2, v3] none [] h := by
  refine (s_go mt_X2_unreachable dX2_unreachable_0 rfl).trans ?_
  refine (s_go mt_X2_unreachable dX2_unreachable_1 rfl).trans ?_
  exact rfl
theorem e_X2_unreachable_2 (sc : SC) (p0 : Nat) (x1 : Int32) (v2 : AV) (v3 : AV) (h : AH) : Run sc n_X2_unreachable 2 [aD p0, aI x1, v2, v3] none [] h = bF (getF sc h (aD p0) 5 0) (fun z => Run sc n_X2_unreachable 7 [aD p0, aI x1, v2, v3] none [z, aI x1] h) := by
  refine (s_go mt_X2_unreachable dX2_unreachable_2 rfl).trans ?_
  refine (s_go mt_X2_unreachable dX2_unreachable_3 rfl).trans ?_
  exact q_getfield mt_X2_unreachable dX2_unreachable_4 rfl
theorem e_X2_unreachable_13 (sc : SC) (p0 : Nat) (x1 : Int32) (v2 : AV) (v3 : AV) (h : AH) : Run sc n_X2_unreachable 13 [aD p0, aI x1, v2, v3] none [] h = bF (getF sc h (aD p0) 5 4) (fun z => Run sc n_X2_unreachable 17 [aD p0, aI x1, v2, v3] none [z] h) := by
  refine (s_go mt_X2_unreachable dX2_unreachable_13 rfl).trans ?_
  exact q_getfield mt_X2_unreachable dX2_unreachable_14 rfl
theorem e_X2_unreachable_26 (sc : SC) (p0 : Nat) (x1 : Int32) (v2 : AV) (v3 : AV) (h : AH) : Run sc n_X2_unreachable 26 [aD p0, aI x1, v2, v3] none [] h = bF (getF sc h (aD p0) 5 4) (fun z => Run sc n_X2_unreachable 30 [aD p0, aI x1, v2, v3] none [z] h) := by
  refine (s_go mt_X2_unreachable dX2_unreachable_26 rfl).trans ?_
  exact q_getfield mt_X2_unreachable dX2_unreachable_27 rfl
theorem e_X2_unreachable_37 (sc : SC) (p0 : Nat) (x1 : Int32) (x2 : Int32) (v3 : AV) (h : AH) : Run sc n_X2_unreachable 37 [aD p0, aI x1, aI x2, v3] none [] h = Run sc n_X2_unreachable (if x1 = 0 then 58 else 41) [aD p0, aI x1, aI x2, v3] none [] h := by
  refine (s_go mt_X2_unreachable dX2_unreachable_37 rfl).trans ?_
  exact q_if mt_X2_unreachable dX2_unreachable_38 (fun _ _ _ _ => rfl) rfl
theorem e_X2_unreachable_41 (sc : SC) (p0 : Nat) (x1 : Int32) (x2 : Int32) (v3 : AV) (h : AH) : Run sc n_X2_unreachable 41 [aD p0, aI x1, aI x2, v3] none [] h = Run sc n_X2_unreachable (if (nI 60) < x2 then 58 else 47) [aD p0, aI x1, aI x2, v3] none [] h := by
  refine (s_go mt_X2_unreachable dX2_unreachable_41 rfl).trans ?_
  refine (s_go mt_X2_unreachable dX2_unreachable_42 rfl).trans ?_
  exact q_icmp mt_X2_unreachable dX2_unreachable_44 (fun _ _ _ _ => rfl) rfl
theorem e_X2_unreachable_47 (sc : SC) (p0 : Nat) (x1 : Int32) (x2 : Int32) (v3 : AV) (h : AH) : Run sc n_X2_unreachable 47 [aD p0, aI x1, aI x2, v3] none [] h = bI (rOK sc h (aD p0) 5 = true) (bC (Call sc n_X2_growReached [aD p0] h) (fun v z => Run sc n_X2_unreachable 51 [aD p0, aI x1, aI x2, v3] none (v.toList ++ []) z) (fun E z => some (.inr E, z))) := by
  refine (s_go mt_X2_unreachable dX2_unreachable_47 rfl).trans ?_
  exact q_cV mt_X2_unreachable dX2_unreachable_48 rfl mt_X2_growReached rfl rfl rfl
theorem e_X2_unreachable_58 (sc : SC) (p0 : Nat) (x1 : Int32) (x2 : Int32) (v3 : AV) (h : AH) : Run sc n_X2_unreachable 58 [aD p0, aI x1, aI x2, v3] none [] h = Run sc n_X2_unreachable 62 [aD p0, aI x1, aI (nI 0), aI (nI 0)] none [] h := by
  refine (s_go mt_X2_unreachable dX2_unreachable_58 rfl).trans ?_
  refine (s_go mt_X2_unreachable dX2_unreachable_59 rfl).trans ?_
  refine (s_go mt_X2_unreachable dX2_unreachable_60 rfl).trans ?_
  refine (s_go mt_X2_unreachable dX2_unreachable_61 rfl).trans ?_
  exact rfl
theorem e_X2_unreachable_62 (sc : SC) (p0 : Nat) (x1 : Int32) (x2 : Int32) (x3 : Int32) (h : AH) : Run sc n_X2_unreachable 62 [aD p0, aI x1, aI x2, aI x3] none [] h = bF (getF sc h (aD p0) 5 0) (fun z => Run sc n_X2_unreachable 67 [aD p0, aI x1, aI x2, aI x3] none [z, aI x3] h) := by
  refine (s_go mt_X2_unreachable dX2_unreachable_62 rfl).trans ?_
  refine (s_go mt_X2_unreachable dX2_unreachable_63 rfl).trans ?_
  exact q_getfield mt_X2_unreachable dX2_unreachable_64 rfl
theorem e_X2_unreachable_73 (sc : SC) (p0 : Nat) (x1 : Int32) (x2 : Int32) (x3 : Int32) (h : AH) : Run sc n_X2_unreachable 73 [aD p0, aI x1, aI x2, aI x3] none [] h = bF (getF sc h (aD p0) 5 0) (fun z => Run sc n_X2_unreachable 77 [aD p0, aI x1, aI x2, aI x3] none [z] h) := by
  refine (s_go mt_X2_unreachable dX2_unreachable_73 rfl).trans ?_
  exact q_getfield mt_X2_unreachable dX2_unreachable_74 rfl
theorem e_X2_unreachable_84 (sc : SC) (p0 : Nat) (x1 : Int32) (x2 : Int32) (x3 : Int32) (h : AH) : Run sc n_X2_unreachable 84 [aD p0, aI x1, aI x2, aI x3] none [] h = bF (getF sc h (aD p0) 5 4) (fun z => Run sc n_X2_unreachable 88 [aD p0, aI x1, aI x2, aI x3] none [z] h) := by
  refine (s_go mt_X2_unreachable dX2_unreachable_84 rfl).trans ?_
  exact q_getfield mt_X2_unreachable dX2_unreachable_85 rfl
theorem e_X2_unreachable_93 (sc : SC) (p0 : Nat) (x1 : Int32) (x2 : Int32) (x3 : Int32) (h : AH) : Run sc n_X2_unreachable 93 [aD p0, aI x1, aI x2, aI x3] none [] h = Run sc n_X2_unreachable 96 [aD p0, aI x1, aI (x2 + nI 1), aI x3] none [] h := by
  refine (s_go mt_X2_unreachable dX2_unreachable_93 rfl).trans ?_
  exact rfl
theorem e_X2_unreachable_96 (sc : SC) (p0 : Nat) (x1 : Int32) (x2 : Int32) (x3 : Int32) (h : AH) : Run sc n_X2_unreachable 96 [aD p0, aI x1, aI x2, aI x3] none [] h = Run sc n_X2_unreachable 62 [aD p0, aI x1, aI x2, aI (x3 + nI 1)] none [] h := by
  refine (s_go mt_X2_unreachable dX2_unreachable_96 rfl).trans ?_
  refine (s_go mt_X2_unreachable dX2_unreachable_99 rfl).trans ?_
  exact rfl
theorem e_X2_unreachable_102 (sc : SC) (p0 : Nat) (x1 : Int32) (x2 : Int32) (x3 : Int32) (h : AH) : Run sc n_X2_unreachable 102 [aD p0, aI x1, aI x2, aI x3] none [] h = some (.inl (some (aI x2)), h) := by
  refine (s_go mt_X2_unreachable dX2_unreachable_102 rfl).trans ?_
  exact q_ret (c := (some (aI x2), h)) mt_X2_unreachable dX2_unreachable_103 rfl
theorem e_X2_unreachable_7 (sc : SC) (p0 : Nat) (x1 : Int32) (v2 : AV) (v3 : AV) (y0 : Int32) (q1 : Nat) (h : AH) : Run sc n_X2_unreachable 7 [aD p0, aI x1, v2, v3] none [aD q1, aI y0] h = bF (getF sc h (aD q1) 8 1) (fun z => Run sc n_X2_unreachable 10 [aD p0, aI x1, v2, v3] none [z, aI y0] h) := by
  exact q_getfield mt_X2_unreachable dX2_unreachable_7 rfl
theorem e_X2_unreachable_17 (sc : SC) (p0 : Nat) (x1 : Int32) (v2 : AV) (v3 : AV) (q0 : Nat) (h : AH) : Run sc n_X2_unreachable 17 [aD p0, aI x1, v2, v3] none [aD q0] h = bO (stI h (fun t => t == 2 || t == 3) q0 x1 (nI 0)) (fun z => Run sc n_X2_unreachable 20 [aD p0, aI x1, v2, v3] none [] z) := by
  refine (s_go mt_X2_unreachable dX2_unreachable_17 rfl).trans ?_
  refine (s_go mt_X2_unreachable dX2_unreachable_18 rfl).trans ?_
  exact q_bastore mt_X2_unreachable dX2_unreachable_19
theorem e_X2_unreachable_30 (sc : SC) (p0 : Nat) (x1 : Int32) (v2 : AV) (v3 : AV) (q0 : Nat) (h : AH) : Run sc n_X2_unreachable 30 [aD p0, aI x1, v2, v3] none [aD q0] h = bO (stI h (fun t => t == 2 || t == 3) q0 (nI 0) (nI 1)) (fun z => Run sc n_X2_unreachable 33 [aD p0, aI x1, v2, v3] none [] z) := by
  refine (s_go mt_X2_unreachable dX2_unreachable_30 rfl).trans ?_
  refine (s_go mt_X2_unreachable dX2_unreachable_31 rfl).trans ?_
  exact q_bastore mt_X2_unreachable dX2_unreachable_32
theorem e_X2_unreachable_51 (sc : SC) (p0 : Nat) (x1 : Int32) (x2 : Int32) (v3 : AV) (y0 : Int32) (h : AH) : Run sc n_X2_unreachable 51 [aD p0, aI x1, aI x2, v3] none [aI y0] h = Run sc n_X2_unreachable 37 [aD p0, aI y0, aI (x2 + nI 1), v3] none [] h := by
  refine (s_go mt_X2_unreachable dX2_unreachable_51 rfl).trans ?_
  refine (s_go mt_X2_unreachable dX2_unreachable_52 rfl).trans ?_
  refine (s_go mt_X2_unreachable dX2_unreachable_55 rfl).trans ?_
  exact rfl
theorem e_X2_unreachable_67 (sc : SC) (p0 : Nat) (x1 : Int32) (x2 : Int32) (x3 : Int32) (y0 : Int32) (q1 : Nat) (h : AH) : Run sc n_X2_unreachable 67 [aD p0, aI x1, aI x2, aI x3] none [aD q1, aI y0] h = bF (getF sc h (aD q1) 8 1) (fun z => Run sc n_X2_unreachable 70 [aD p0, aI x1, aI x2, aI x3] none [z, aI y0] h) := by
  exact q_getfield mt_X2_unreachable dX2_unreachable_67 rfl
theorem e_X2_unreachable_77 (sc : SC) (p0 : Nat) (x1 : Int32) (x2 : Int32) (x3 : Int32) (q0 : Nat) (h : AH) : Run sc n_X2_unreachable 77 [aD p0, aI x1, aI x2, aI x3] none [aD q0] h = bI (rOK sc h (aD q0) 8 = true) (bC (Call sc n_X6_isSlot [aD q0, aI x3] h) (fun v z => Run sc n_X2_unreachable 81 [aD p0, aI x1, aI x2, aI x3] none (v.toList ++ []) z) (fun E z => some (.inr E, z))) := by
  refine (s_go mt_X2_unreachable dX2_unreachable_77 rfl).trans ?_
  exact q_cV mt_X2_unreachable dX2_unreachable_78 rfl mt_X6_isSlot rfl rfl rfl
theorem e_X2_unreachable_88 (sc : SC) (p0 : Nat) (x1 : Int32) (x2 : Int32) (x3 : Int32) (q0 : Nat) (h : AH) : Run sc n_X2_unreachable 88 [aD p0, aI x1, aI x2, aI x3] none [aD q0] h = bO (ldI sc h (fun t => t == 2 || t == 3) (aD q0) x3) (fun z => Run sc n_X2_unreachable 90 [aD p0, aI x1, aI x2, aI x3] none [aI z] h) := by
  refine (s_go mt_X2_unreachable dX2_unreachable_88 rfl).trans ?_
  exact q_baload mt_X2_unreachable dX2_unreachable_89
theorem e_X2_unreachable_10 (sc : SC) (p0 : Nat) (x1 : Int32) (v2 : AV) (v3 : AV) (y0 : Int32) (y1 : Int32) (h : AH) : Run sc n_X2_unreachable 10 [aD p0, aI x1, v2, v3] none [aI y1, aI y0] h = Run sc n_X2_unreachable (if y1 < y0 then 26 else 13) [aD p0, aI x1, v2, v3] none [] h := by
  exact q_icmp mt_X2_unreachable dX2_unreachable_10 (fun _ _ _ _ => rfl) rfl
theorem e_X2_unreachable_20 (sc : SC) (p0 : Nat) (x1 : Int32) (v2 : AV) (v3 : AV) (h : AH) : Run sc n_X2_unreachable 20 [aD p0, aI x1, v2, v3] none [] h = Run sc n_X2_unreachable 2 [aD p0, aI (x1 + nI 1), v2, v3] none [] h := by
  refine (s_go mt_X2_unreachable dX2_unreachable_20 rfl).trans ?_
  refine (s_go mt_X2_unreachable dX2_unreachable_23 rfl).trans ?_
  exact rfl
theorem e_X2_unreachable_33 (sc : SC) (p0 : Nat) (x1 : Int32) (v2 : AV) (v3 : AV) (h : AH) : Run sc n_X2_unreachable 33 [aD p0, aI x1, v2, v3] none [] h = Run sc n_X2_unreachable 37 [aD p0, aI (nI 1), aI (nI 0), v3] none [] h := by
  refine (s_go mt_X2_unreachable dX2_unreachable_33 rfl).trans ?_
  refine (s_go mt_X2_unreachable dX2_unreachable_34 rfl).trans ?_
  refine (s_go mt_X2_unreachable dX2_unreachable_35 rfl).trans ?_
  refine (s_go mt_X2_unreachable dX2_unreachable_36 rfl).trans ?_
  exact rfl
theorem e_X2_unreachable_70 (sc : SC) (p0 : Nat) (x1 : Int32) (x2 : Int32) (x3 : Int32) (y0 : Int32) (y1 : Int32) (h : AH) : Run sc n_X2_unreachable 70 [aD p0, aI x1, aI x2, aI x3] none [aI y1, aI y0] h = Run sc n_X2_unreachable (if y1 ≤ y0 then 102 else 73) [aD p0, aI x1, aI x2, aI x3] none [] h := by
  exact q_icmp mt_X2_unreachable dX2_unreachable_70 (fun _ _ _ _ => rfl) rfl
theorem e_X2_unreachable_81 (sc : SC) (p0 : Nat) (x1 : Int32) (x2 : Int32) (x3 : Int32) (y0 : Int32) (h : AH) : Run sc n_X2_unreachable 81 [aD p0, aI x1, aI x2, aI x3] none [aI y0] h = Run sc n_X2_unreachable (if ¬ y0 = 0 then 96 else 84) [aD p0, aI x1, aI x2, aI x3] none [] h := by
  exact q_if mt_X2_unreachable dX2_unreachable_81 (fun _ _ _ _ => rfl) rfl
theorem e_X2_unreachable_90 (sc : SC) (p0 : Nat) (x1 : Int32) (x2 : Int32) (x3 : Int32) (y0 : Int32) (h : AH) : Run sc n_X2_unreachable 90 [aD p0, aI x1, aI x2, aI x3] none [aI y0] h = Run sc n_X2_unreachable (if ¬ y0 = 0 then 96 else 93) [aD p0, aI x1, aI x2, aI x3] none [] h := by
  exact q_if mt_X2_unreachable dX2_unreachable_90 (fun _ _ _ _ => rfl) rfl
/-! BranchSlotFiller$Flow.liveThrough(II)I -/
theorem e_X2_liveThrough_0 (sc : SC) (p0 : Nat) (x1 : Int32) (x2 : Int32) (h : AH) : Run sc n_X2_liveThrough 0 [aD p0, aI x1, aI x2] none [] h = bF (getF sc h (aD p0) 5 2) (fun z => Run sc n_X2_liveThrough 4 [aD p0, aI x1, aI x2] none [z] h) := by
  refine (s_go mt_X2_liveThrough dX2_liveThrough_0 rfl).trans ?_
  exact q_getfield mt_X2_liveThrough dX2_liveThrough_1 rfl
theorem e_X2_liveThrough_4 (sc : SC) (p0 : Nat) (x1 : Int32) (x2 : Int32) (q0 : Nat) (h : AH) : Run sc n_X2_liveThrough 4 [aD p0, aI x1, aI x2] none [aD q0] h = bO (ldI sc h (fun t => t == 0) (aD q0) x1) (fun z => Run sc n_X2_liveThrough 6 [aD p0, aI x1, aI x2] none [aI z] h) := by
  refine (s_go mt_X2_liveThrough dX2_liveThrough_4 rfl).trans ?_
  exact q_iaload mt_X2_liveThrough dX2_liveThrough_5
theorem e_X2_liveThrough_6 (sc : SC) (p0 : Nat) (x1 : Int32) (x2 : Int32) (y0 : Int32) (h : AH) : Run sc n_X2_liveThrough 6 [aD p0, aI x1, aI x2] none [aI y0] h = bF (getF sc h (aD p0) 5 3) (fun z => Run sc n_X2_liveThrough 11 [aD p0, aI x1, aI x2] none [z, aI x2, aI y0] h) := by
  refine (s_go mt_X2_liveThrough dX2_liveThrough_6 rfl).trans ?_
  refine (s_go mt_X2_liveThrough dX2_liveThrough_7 rfl).trans ?_
  exact q_getfield mt_X2_liveThrough dX2_liveThrough_8 rfl
theorem e_X2_liveThrough_11 (sc : SC) (p0 : Nat) (x1 : Int32) (x2 : Int32) (y0 : Int32) (y1 : Int32) (q2 : Nat) (h : AH) : Run sc n_X2_liveThrough 11 [aD p0, aI x1, aI x2] none [aD q2, aI y1, aI y0] h = bO (ldI sc h (fun t => t == 0) (aD q2) x1) (fun z => Run sc n_X2_liveThrough 13 [aD p0, aI x1, aI x2] none [aI z, aI y1, aI y0] h) := by
  refine (s_go mt_X2_liveThrough dX2_liveThrough_11 rfl).trans ?_
  exact q_iaload mt_X2_liveThrough dX2_liveThrough_12
theorem e_X2_liveThrough_13 (sc : SC) (p0 : Nat) (x1 : Int32) (x2 : Int32) (y0 : Int32) (y1 : Int32) (y2 : Int32) (h : AH) : Run sc n_X2_liveThrough 13 [aD p0, aI x1, aI x2] none [aI y2, aI y1, aI y0] h = some (.inl (some (aI (y0 ||| (y1 &&& (y2 ^^^ (-1)))))), h) := by
  refine (s_go mt_X2_liveThrough dX2_liveThrough_13 rfl).trans ?_
  refine (s_go mt_X2_liveThrough dX2_liveThrough_14 rfl).trans ?_
  refine (s_go mt_X2_liveThrough dX2_liveThrough_15 rfl).trans ?_
  refine (s_go mt_X2_liveThrough dX2_liveThrough_16 rfl).trans ?_
  exact q_ret (c := (some (aI (y0 ||| (y1 &&& (y2 ^^^ (-1))))), h)) mt_X2_liveThrough dX2_liveThrough_17 rfl
/-! BranchSlotFiller$Flow.liveFromFollowing(I)I -/
theorem e_X2_liveFromFollowing_0 (sc : SC) (p0 : Nat) (x1 : Int32) (v2 : AV) (v3 : AV) (h : AH) : Run sc n_X2_liveFromFollowing 0 [aD p0, aI x1, v2, v3] none [] h = bF (getF sc h (aD p0) 5 0) (fun z => Run sc n_X2_liveFromFollowing 4 [aD p0, aI x1, v2, v3] none [z] h) := by
  refine (s_go mt_X2_liveFromFollowing dX2_liveFromFollowing_0 rfl).trans ?_
  exact q_getfield mt_X2_liveFromFollowing dX2_liveFromFollowing_1 rfl
theorem e_X2_liveFromFollowing_16 (sc : SC) (p0 : Nat) (x1 : Int32) (c2 : Nat) (v3 : AV) (h : AH) : Run sc n_X2_liveFromFollowing 16 [aD p0, aI x1, aC c2, v3] none [] h = some (.inl (some (aI (nI 0))), h) := by
  refine (s_go mt_X2_liveFromFollowing dX2_liveFromFollowing_16 rfl).trans ?_
  exact q_ret (c := (some (aI (nI 0)), h)) mt_X2_liveFromFollowing dX2_liveFromFollowing_17 rfl
theorem e_X2_liveFromFollowing_18 (sc : SC) (p0 : Nat) (x1 : Int32) (c2 : Nat) (v3 : AV) (h : AH) : Run sc n_X2_liveFromFollowing 18 [aD p0, aI x1, aC c2, v3] none [] h = bF (getF sc h (aC c2) 100 6) (fun z => Run sc n_X2_liveFromFollowing 22 [aD p0, aI x1, aC c2, v3] none [z] h) := by
  refine (s_go mt_X2_liveFromFollowing dX2_liveFromFollowing_18 rfl).trans ?_
  exact q_getfield mt_X2_liveFromFollowing dX2_liveFromFollowing_19 rfl
theorem e_X2_liveFromFollowing_25 (sc : SC) (p0 : Nat) (x1 : Int32) (c2 : Nat) (v3 : AV) (h : AH) : Run sc n_X2_liveFromFollowing 25 [aD p0, aI x1, aC c2, v3] none [] h = bF (getF sc h (aD p0) 5 1) (fun z => Run sc n_X2_liveFromFollowing 31 [aD p0, aI x1, aC c2, v3] none [z, aI x1, aD p0] h) := by
  refine (s_go mt_X2_liveFromFollowing dX2_liveFromFollowing_25 rfl).trans ?_
  refine (s_go mt_X2_liveFromFollowing dX2_liveFromFollowing_26 rfl).trans ?_
  refine (s_go mt_X2_liveFromFollowing dX2_liveFromFollowing_27 rfl).trans ?_
  exact q_getfield mt_X2_liveFromFollowing dX2_liveFromFollowing_28 rfl
theorem e_X2_liveFromFollowing_39 (sc : SC) (p0 : Nat) (x1 : Int32) (c2 : Nat) (v3 : AV) (h : AH) : Run sc n_X2_liveFromFollowing 39 [aD p0, aI x1, aC c2, v3] none [] h = bF (getF sc h (aD p0) 5 2) (fun z => Run sc n_X2_liveFromFollowing 43 [aD p0, aI x1, aC c2, v3] none [z] h) := by
  refine (s_go mt_X2_liveFromFollowing dX2_liveFromFollowing_39 rfl).trans ?_
  exact q_getfield mt_X2_liveFromFollowing dX2_liveFromFollowing_40 rfl
theorem e_X2_liveFromFollowing_74 (sc : SC) (p0 : Nat) (x1 : Int32) (c2 : Nat) (x3 : Int32) (h : AH) : Run sc n_X2_liveFromFollowing 74 [aD p0, aI x1, aC c2, aI x3] none [] h = bF (getF sc h (aD p0) 5 0) (fun z => Run sc n_X2_liveFromFollowing 79 [aD p0, aI x1, aC c2, aI x3] none [z, aI x3] h) := by
  refine (s_go mt_X2_liveFromFollowing dX2_liveFromFollowing_74 rfl).trans ?_
  refine (s_go mt_X2_liveFromFollowing dX2_liveFromFollowing_75 rfl).trans ?_
  exact q_getfield mt_X2_liveFromFollowing dX2_liveFromFollowing_76 rfl
theorem e_X2_liveFromFollowing_86 (sc : SC) (p0 : Nat) (x1 : Int32) (c2 : Nat) (x3 : Int32) (y0 : Int32) (h : AH) : Run sc n_X2_liveFromFollowing 86 [aD p0, aI x1, aC c2, aI x3] none [aI y0] h = bF (getF sc h (aD p0) 5 1) (fun z => Run sc n_X2_liveFromFollowing 90 [aD p0, aI x1, aC c2, aI x3] none [z, aI y0] h) := by
  refine (s_go mt_X2_liveFromFollowing dX2_liveFromFollowing_86 rfl).trans ?_
  exact q_getfield mt_X2_liveFromFollowing dX2_liveFromFollowing_87 rfl
theorem e_X2_liveFromFollowing_97 (sc : SC) (p0 : Nat) (x1 : Int32) (c2 : Nat) (x3 : Int32) (y0 : Int32) (h : AH) : Run sc n_X2_liveFromFollowing 97 [aD p0, aI x1, aC c2, aI x3] none [aI y0] h = bF (getF sc h (aD p0) 5 1) (fun z => Run sc n_X2_liveFromFollowing 105 [aD p0, aI x1, aC c2, aI x3] none [z, aI (x1 + (nI 1)), aD p0, aI y0] h) := by
  refine (s_go mt_X2_liveFromFollowing dX2_liveFromFollowing_97 rfl).trans ?_
  refine (s_go mt_X2_liveFromFollowing dX2_liveFromFollowing_98 rfl).trans ?_
  refine (s_go mt_X2_liveFromFollowing dX2_liveFromFollowing_99 rfl).trans ?_
  refine (s_go mt_X2_liveFromFollowing dX2_liveFromFollowing_100 rfl).trans ?_
  refine (s_go mt_X2_liveFromFollowing dX2_liveFromFollowing_101 rfl).trans ?_
  exact q_getfield mt_X2_liveFromFollowing dX2_liveFromFollowing_102 rfl
theorem e_X2_liveFromFollowing_112 (sc : SC) (p0 : Nat) (x1 : Int32) (c2 : Nat) (x3 : Int32) (y0 : Int32) (y1 : Int32) (h : AH) : Run sc n_X2_liveFromFollowing 112 [aD p0, aI x1, aC c2, aI x3] none [aI y1, aI y0] h = Run sc n_X2_liveFromFollowing 114 [aD p0, aI x1, aC c2, aI (y0 ||| y1)] none [] h := by
  refine (s_go mt_X2_liveFromFollowing dX2_liveFromFollowing_112 rfl).trans ?_
  refine (s_go mt_X2_liveFromFollowing dX2_liveFromFollowing_113 rfl).trans ?_
  exact rfl
theorem e_X2_liveFromFollowing_114 (sc : SC) (p0 : Nat) (x1 : Int32) (c2 : Nat) (x3 : Int32) (h : AH) : Run sc n_X2_liveFromFollowing 114 [aD p0, aI x1, aC c2, aI x3] none [] h = some (.inl (some (aI x3)), h) := by
  refine (s_go mt_X2_liveFromFollowing dX2_liveFromFollowing_114 rfl).trans ?_
  exact q_ret (c := (some (aI x3), h)) mt_X2_liveFromFollowing dX2_liveFromFollowing_115 rfl
theorem e_X2_liveFromFollowing_4 (sc : SC) (p0 : Nat) (x1 : Int32) (v2 : AV) (v3 : AV) (q0 : Nat) (h : AH) : Run sc n_X2_liveFromFollowing 4 [aD p0, aI x1, v2, v3] none [aD q0] h = bI (rOK sc h (aD q0) 8 = true) (bC (Call sc n_X6_kind [aD q0, aI x1] h) (fun v z => Run sc n_X2_liveFromFollowing 8 [aD p0, aI x1, v2, v3] none (v.toList ++ []) z) (fun E z => some (.inr E, z))) := by
  refine (s_go mt_X2_liveFromFollowing dX2_liveFromFollowing_4 rfl).trans ?_
  exact q_cV mt_X2_liveFromFollowing dX2_liveFromFollowing_5 rfl mt_X6_kind rfl rfl rfl
theorem e_X2_liveFromFollowing_22 (sc : SC) (p0 : Nat) (x1 : Int32) (c2 : Nat) (v3 : AV) (y0 : Int32) (h : AH) : Run sc n_X2_liveFromFollowing 22 [aD p0, aI x1, aC c2, v3] none [aI y0] h = Run sc n_X2_liveFromFollowing (if ¬ y0 = 0 then 39 else 25) [aD p0, aI x1, aC c2, v3] none [] h := by
  exact q_if mt_X2_liveFromFollowing dX2_liveFromFollowing_22 (fun _ _ _ _ => rfl) rfl
theorem e_X2_liveFromFollowing_31 (sc : SC) (p0 : Nat) (x1 : Int32) (c2 : Nat) (v3 : AV) (q0 : Nat) (y1 : Int32) (q2 : Nat) (h : AH) : Run sc n_X2_liveFromFollowing 31 [aD p0, aI x1, aC c2, v3] none [aD q2, aI y1, aD q0] h = bO (ldI sc h (fun t => t == 0) (aD q2) (x1 + (nI 1))) (fun z => Run sc n_X2_liveFromFollowing 35 [aD p0, aI x1, aC c2, v3] none [aI z, aI y1, aD q0] h) := by
  refine (s_go mt_X2_liveFromFollowing dX2_liveFromFollowing_31 rfl).trans ?_
  refine (s_go mt_X2_liveFromFollowing dX2_liveFromFollowing_32 rfl).trans ?_
  refine (s_go mt_X2_liveFromFollowing dX2_liveFromFollowing_33 rfl).trans ?_
  exact q_iaload mt_X2_liveFromFollowing dX2_liveFromFollowing_34
theorem e_X2_liveFromFollowing_43 (sc : SC) (p0 : Nat) (x1 : Int32) (c2 : Nat) (v3 : AV) (q0 : Nat) (h : AH) : Run sc n_X2_liveFromFollowing 43 [aD p0, aI x1, aC c2, v3] none [aD q0] h = bO (ldI sc h (fun t => t == 0) (aD q0) x1) (fun z => Run sc n_X2_liveFromFollowing 45 [aD p0, aI x1, aC c2, v3] none [aI z] h) := by
  refine (s_go mt_X2_liveFromFollowing dX2_liveFromFollowing_43 rfl).trans ?_
  exact q_iaload mt_X2_liveFromFollowing dX2_liveFromFollowing_44
theorem e_X2_liveFromFollowing_79 (sc : SC) (p0 : Nat) (x1 : Int32) (c2 : Nat) (x3 : Int32) (y0 : Int32) (q1 : Nat) (h : AH) : Run sc n_X2_liveFromFollowing 79 [aD p0, aI x1, aC c2, aI x3] none [aD q1, aI y0] h = bI (rOK sc h (aD q1) 8 = true) (bC (Call sc n_X6_isAnnulling [aD q1, aI x1] h) (fun v z => Run sc n_X2_liveFromFollowing 83 [aD p0, aI x1, aC c2, aI x3] none (v.toList ++ [aI y0]) z) (fun E z => some (.inr E, z))) := by
  refine (s_go mt_X2_liveFromFollowing dX2_liveFromFollowing_79 rfl).trans ?_
  exact q_cV mt_X2_liveFromFollowing dX2_liveFromFollowing_80 rfl mt_X6_isAnnulling rfl rfl rfl
theorem e_X2_liveFromFollowing_90 (sc : SC) (p0 : Nat) (x1 : Int32) (c2 : Nat) (x3 : Int32) (y0 : Int32) (q1 : Nat) (h : AH) : Run sc n_X2_liveFromFollowing 90 [aD p0, aI x1, aC c2, aI x3] none [aD q1, aI y0] h = bO (ldI sc h (fun t => t == 0) (aD q1) (x1 + (nI 2))) (fun z => Run sc n_X2_liveFromFollowing 94 [aD p0, aI x1, aC c2, aI x3] none [aI z, aI y0] h) := by
  refine (s_go mt_X2_liveFromFollowing dX2_liveFromFollowing_90 rfl).trans ?_
  refine (s_go mt_X2_liveFromFollowing dX2_liveFromFollowing_91 rfl).trans ?_
  refine (s_go mt_X2_liveFromFollowing dX2_liveFromFollowing_92 rfl).trans ?_
  exact q_iaload mt_X2_liveFromFollowing dX2_liveFromFollowing_93
theorem e_X2_liveFromFollowing_105 (sc : SC) (p0 : Nat) (x1 : Int32) (c2 : Nat) (x3 : Int32) (y0 : Int32) (q1 : Nat) (y2 : Int32) (q3 : Nat) (h : AH) : Run sc n_X2_liveFromFollowing 105 [aD p0, aI x1, aC c2, aI x3] none [aD q3, aI y2, aD q1, aI y0] h = bO (ldI sc h (fun t => t == 0) (aD q3) (x1 + (nI 2))) (fun z => Run sc n_X2_liveFromFollowing 109 [aD p0, aI x1, aC c2, aI x3] none [aI z, aI y2, aD q1, aI y0] h) := by
  refine (s_go mt_X2_liveFromFollowing dX2_liveFromFollowing_105 rfl).trans ?_
  refine (s_go mt_X2_liveFromFollowing dX2_liveFromFollowing_106 rfl).trans ?_
  refine (s_go mt_X2_liveFromFollowing dX2_liveFromFollowing_107 rfl).trans ?_
  exact q_iaload mt_X2_liveFromFollowing dX2_liveFromFollowing_108
theorem e_X2_liveFromFollowing_8 (sc : SC) (p0 : Nat) (x1 : Int32) (v2 : AV) (v3 : AV) (d0 : Nat) (h : AH) : Run sc n_X2_liveFromFollowing 8 [aD p0, aI x1, v2, v3] none [aC d0] h = bI (1 ≤ d0 ∧ d0 < 13 ∧ 1 ≤ 12 ∧ 12 < 13) (Run sc n_X2_liveFromFollowing (if ¬ d0 = 12 then 18 else 16) [aD p0, aI x1, aC d0, v3] none [] h) := by
  refine (s_go mt_X2_liveFromFollowing dX2_liveFromFollowing_8 rfl).trans ?_
  refine (s_go mt_X2_liveFromFollowing dX2_liveFromFollowing_9 rfl).trans ?_
  refine (s_go mt_X2_liveFromFollowing dX2_liveFromFollowing_10 rfl).trans ?_
  exact q_acmpne mt_X2_liveFromFollowing dX2_liveFromFollowing_13 rfl
theorem e_X2_liveFromFollowing_35 (sc : SC) (p0 : Nat) (x1 : Int32) (c2 : Nat) (v3 : AV) (q0 : Nat) (y1 : Int32) (y2 : Int32) (h : AH) : Run sc n_X2_liveFromFollowing 35 [aD p0, aI x1, aC c2, v3] none [aI y2, aI y1, aD q0] h = bI (rOK sc h (aD q0) 5 = true) (bC (Call sc n_X2_liveThrough [aD q0, aI y1, aI y2] h) (fun v z => Run sc n_X2_liveFromFollowing 38 [aD p0, aI x1, aC c2, v3] none (v.toList ++ []) z) (fun E z => some (.inr E, z))) := by
  exact q_cV mt_X2_liveFromFollowing dX2_liveFromFollowing_35 rfl mt_X2_liveThrough rfl rfl rfl
theorem e_X2_liveFromFollowing_45 (sc : SC) (p0 : Nat) (x1 : Int32) (c2 : Nat) (v3 : AV) (y0 : Int32) (h : AH) : Run sc n_X2_liveFromFollowing 45 [aD p0, aI x1, aC c2, v3] none [aI y0] h = bF (getF sc h (aD p0) 5 1) (fun z => Run sc n_X2_liveFromFollowing 53 [aD p0, aI x1, aC c2, v3] none [z, aI (x1 + (nI 1)), aD p0, aI y0] h) := by
  refine (s_go mt_X2_liveFromFollowing dX2_liveFromFollowing_45 rfl).trans ?_
  refine (s_go mt_X2_liveFromFollowing dX2_liveFromFollowing_46 rfl).trans ?_
  refine (s_go mt_X2_liveFromFollowing dX2_liveFromFollowing_47 rfl).trans ?_
  refine (s_go mt_X2_liveFromFollowing dX2_liveFromFollowing_48 rfl).trans ?_
  refine (s_go mt_X2_liveFromFollowing dX2_liveFromFollowing_49 rfl).trans ?_
  exact q_getfield mt_X2_liveFromFollowing dX2_liveFromFollowing_50 rfl
theorem e_X2_liveFromFollowing_83 (sc : SC) (p0 : Nat) (x1 : Int32) (c2 : Nat) (x3 : Int32) (y0 : Int32) (y1 : Int32) (h : AH) : Run sc n_X2_liveFromFollowing 83 [aD p0, aI x1, aC c2, aI x3] none [aI y1, aI y0] h = Run sc n_X2_liveFromFollowing (if y1 = 0 then 97 else 86) [aD p0, aI x1, aC c2, aI x3] none [aI y0] h := by
  exact q_if mt_X2_liveFromFollowing dX2_liveFromFollowing_83 (fun _ _ _ _ => rfl) rfl
theorem e_X2_liveFromFollowing_94 (sc : SC) (p0 : Nat) (x1 : Int32) (c2 : Nat) (x3 : Int32) (y0 : Int32) (y1 : Int32) (h : AH) : Run sc n_X2_liveFromFollowing 94 [aD p0, aI x1, aC c2, aI x3] none [aI y1, aI y0] h = Run sc n_X2_liveFromFollowing 112 [aD p0, aI x1, aC c2, aI x3] none [aI y1, aI y0] h := by
  refine (s_go mt_X2_liveFromFollowing dX2_liveFromFollowing_94 rfl).trans ?_
  exact rfl
theorem e_X2_liveFromFollowing_109 (sc : SC) (p0 : Nat) (x1 : Int32) (c2 : Nat) (x3 : Int32) (y0 : Int32) (q1 : Nat) (y2 : Int32) (y3 : Int32) (h : AH) : Run sc n_X2_liveFromFollowing 109 [aD p0, aI x1, aC c2, aI x3] none [aI y3, aI y2, aD q1, aI y0] h = bI (rOK sc h (aD q1) 5 = true) (bC (Call sc n_X2_liveThrough [aD q1, aI y2, aI y3] h) (fun v z => Run sc n_X2_liveFromFollowing 112 [aD p0, aI x1, aC c2, aI x3] none (v.toList ++ [aI y0]) z) (fun E z => some (.inr E, z))) := by
  exact q_cV mt_X2_liveFromFollowing dX2_liveFromFollowing_109 rfl mt_X2_liveThrough rfl rfl rfl
theorem e_X2_liveFromFollowing_38 (sc : SC) (p0 : Nat) (x1 : Int32) (c2 : Nat) (v3 : AV) (y0 : Int32) (h : AH) : Run sc n_X2_liveFromFollowing 38 [aD p0, aI x1, aC c2, v3] none [aI y0] h = some (.inl (some (aI y0)), h) := by
  exact q_ret (c := (some (aI y0), h)) mt_X2_liveFromFollowing dX2_liveFromFollowing_38 rfl
theorem e_X2_liveFromFollowing_53 (sc : SC) (p0 : Nat) (x1 : Int32) (c2 : Nat) (v3 : AV) (y0 : Int32) (q1 : Nat) (y2 : Int32) (q3 : Nat) (h : AH) : Run sc n_X2_liveFromFollowing 53 [aD p0, aI x1, aC c2, v3] none [aD q3, aI y2, aD q1, aI y0] h = bF (getF sc h (aD p0) 5 0) (fun z => Run sc n_X2_liveFromFollowing 57 [aD p0, aI x1, aC c2, v3] none [z, aD q3, aI y2, aD q1, aI y0] h) := by
  refine (s_go mt_X2_liveFromFollowing dX2_liveFromFollowing_53 rfl).trans ?_
  exact q_getfield mt_X2_liveFromFollowing dX2_liveFromFollowing_54 rfl
theorem e_X2_liveFromFollowing_57 (sc : SC) (p0 : Nat) (x1 : Int32) (c2 : Nat) (v3 : AV) (y0 : Int32) (q1 : Nat) (y2 : Int32) (q3 : Nat) (q4 : Nat) (h : AH) : Run sc n_X2_liveFromFollowing 57 [aD p0, aI x1, aC c2, v3] none [aD q4, aD q3, aI y2, aD q1, aI y0] h = bI (rOK sc h (aD q4) 8 = true) (bC (Call sc n_X6_target [aD q4, aI x1] h) (fun v z => Run sc n_X2_liveFromFollowing 61 [aD p0, aI x1, aC c2, v3] none (v.toList ++ [aD q3, aI y2, aD q1, aI y0]) z) (fun E z => some (.inr E, z))) := by
  refine (s_go mt_X2_liveFromFollowing dX2_liveFromFollowing_57 rfl).trans ?_
  exact q_cV mt_X2_liveFromFollowing dX2_liveFromFollowing_58 rfl mt_X6_target rfl rfl rfl
theorem e_X2_liveFromFollowing_61 (sc : SC) (p0 : Nat) (x1 : Int32) (c2 : Nat) (v3 : AV) (y0 : Int32) (q1 : Nat) (y2 : Int32) (q3 : Nat) (y4 : Int32) (h : AH) : Run sc n_X2_liveFromFollowing 61 [aD p0, aI x1, aC c2, v3] none [aI y4, aD q3, aI y2, aD q1, aI y0] h = bO (ldI sc h (fun t => t == 0) (aD q3) y4) (fun z => Run sc n_X2_liveFromFollowing 62 [aD p0, aI x1, aC c2, v3] none [aI z, aI y2, aD q1, aI y0] h) := by
  exact q_iaload mt_X2_liveFromFollowing dX2_liveFromFollowing_61
theorem e_X2_liveFromFollowing_62 (sc : SC) (p0 : Nat) (x1 : Int32) (c2 : Nat) (v3 : AV) (y0 : Int32) (q1 : Nat) (y2 : Int32) (y3 : Int32) (h : AH) : Run sc n_X2_liveFromFollowing 62 [aD p0, aI x1, aC c2, v3] none [aI y3, aI y2, aD q1, aI y0] h = bI (rOK sc h (aD q1) 5 = true) (bC (Call sc n_X2_liveThrough [aD q1, aI y2, aI y3] h) (fun v z => Run sc n_X2_liveFromFollowing 65 [aD p0, aI x1, aC c2, v3] none (v.toList ++ [aI y0]) z) (fun E z => some (.inr E, z))) := by
  exact q_cV mt_X2_liveFromFollowing dX2_liveFromFollowing_62 rfl mt_X2_liveThrough rfl rfl rfl
theorem e_X2_liveFromFollowing_65 (sc : SC) (p0 : Nat) (x1 : Int32) (c2 : Nat) (v3 : AV) (y0 : Int32) (y1 : Int32) (h : AH) : Run sc n_X2_liveFromFollowing 65 [aD p0, aI x1, aC c2, v3] none [aI y1, aI y0] h = bF (getF sc h (aC c2) 100 7) (fun z => Run sc n_X2_liveFromFollowing 71 [aD p0, aI x1, aC c2, aI (y0 ||| y1)] none [z] h) := by
  refine (s_go mt_X2_liveFromFollowing dX2_liveFromFollowing_65 rfl).trans ?_
  refine (s_go mt_X2_liveFromFollowing dX2_liveFromFollowing_66 rfl).trans ?_
  refine (s_go mt_X2_liveFromFollowing dX2_liveFromFollowing_67 rfl).trans ?_
  exact q_getfield mt_X2_liveFromFollowing dX2_liveFromFollowing_68 rfl
theorem e_X2_liveFromFollowing_71 (sc : SC) (p0 : Nat) (x1 : Int32) (c2 : Nat) (x3 : Int32) (y0 : Int32) (h : AH) : Run sc n_X2_liveFromFollowing 71 [aD p0, aI x1, aC c2, aI x3] none [aI y0] h = Run sc n_X2_liveFromFollowing (if y0 = 0 then 114 else 74) [aD p0, aI x1, aC c2, aI x3] none [] h := by
  exact q_if mt_X2_liveFromFollowing dX2_liveFromFollowing_71 (fun _ _ _ _ => rfl) rfl
/-! BranchSlotFiller$Flow.liveBefore(I)I -/
theorem e_X2_liveBefore_0 (sc : SC) (p0 : Nat) (x1 : Int32) (v2 : AV) (v3 : AV) (v4 : AV) (v5 : AV) (h : AH) : Run sc n_X2_liveBefore 0 [aD p0, aI x1, v2, v3, v4, v5] none [] h = Run sc n_X2_liveBefore 2 [aD p0, aI x1, aI (nI 0), v3, v4, v5] none [] h := by
  refine (s_go mt_X2_liveBefore dX2_liveBefore_0 rfl).trans ?_
  refine (s_go mt_X2_liveBefore dX2_liveBefore_1 rfl).trans ?_
  exact rfl
theorem e_X2_liveBefore_2 (sc : SC) (p0 : Nat) (x1 : Int32) (x2 : Int32) (v3 : AV) (v4 : AV) (v5 : AV) (h : AH) : Run sc n_X2_liveBefore 2 [aD p0, aI x1, aI x2, v3, v4, v5] none [] h = bF (getF sc h (aD p0) 5 0) (fun z => Run sc n_X2_liveBefore 7 [aD p0, aI x1, aI x2, v3, v4, v5] none [z, aI x2] h) := by
  refine (s_go mt_X2_liveBefore dX2_liveBefore_2 rfl).trans ?_
  refine (s_go mt_X2_liveBefore dX2_liveBefore_3 rfl).trans ?_
  exact q_getfield mt_X2_liveBefore dX2_liveBefore_4 rfl
theorem e_X2_liveBefore_13 (sc : SC) (p0 : Nat) (x1 : Int32) (x2 : Int32) (v3 : AV) (v4 : AV) (v5 : AV) (h : AH) : Run sc n_X2_liveBefore 13 [aD p0, aI x1, aI x2, v3, v4, v5] none [] h = bF (getF sc h (aD p0) 5 2) (fun z => Run sc n_X2_liveBefore 17 [aD p0, aI x1, aI x2, v3, v4, v5] none [z] h) := by
  refine (s_go mt_X2_liveBefore dX2_liveBefore_13 rfl).trans ?_
  exact q_getfield mt_X2_liveBefore dX2_liveBefore_14 rfl
theorem e_X2_liveBefore_54 (sc : SC) (p0 : Nat) (x1 : Int32) (x2 : Int32) (v3 : AV) (v4 : AV) (v5 : AV) (h : AH) : Run sc n_X2_liveBefore 54 [aD p0, aI x1, aI x2, v3, v4, v5] none [] h = bF (getF sc h (aD p0) 5 1) (fun z => Run sc n_X2_liveBefore 58 [aD p0, aI x1, aI x2, v3, v4, v5] none [z] h) := by
  refine (s_go mt_X2_liveBefore dX2_liveBefore_54 rfl).trans ?_
  exact q_getfield mt_X2_liveBefore dX2_liveBefore_55 rfl
theorem e_X2_liveBefore_71 (sc : SC) (p0 : Nat) (x1 : Int32) (x2 : Int32) (x3 : Int32) (v4 : AV) (v5 : AV) (h : AH) : Run sc n_X2_liveBefore 71 [aD p0, aI x1, aI x2, aI x3, v4, v5] none [] h = Run sc n_X2_liveBefore (if x2 = 0 then 167 else 75) [aD p0, aI x1, aI x2, aI x3, v4, v5] none [] h := by
  refine (s_go mt_X2_liveBefore dX2_liveBefore_71 rfl).trans ?_
  exact q_if mt_X2_liveBefore dX2_liveBefore_72 (fun _ _ _ _ => rfl) rfl
theorem e_X2_liveBefore_75 (sc : SC) (p0 : Nat) (x1 : Int32) (x2 : Int32) (x3 : Int32) (v4 : AV) (v5 : AV) (h : AH) : Run sc n_X2_liveBefore 75 [aD p0, aI x1, aI x2, aI x3, v4, v5] none [] h = Run sc n_X2_liveBefore (if (nI 480) < x3 then 167 else 82) [aD p0, aI x1, aI x2, aI x3, v4, v5] none [] h := by
  refine (s_go mt_X2_liveBefore dX2_liveBefore_75 rfl).trans ?_
  refine (s_go mt_X2_liveBefore dX2_liveBefore_76 rfl).trans ?_
  exact q_icmp mt_X2_liveBefore dX2_liveBefore_79 (fun _ _ _ _ => rfl) rfl
theorem e_X2_liveBefore_82 (sc : SC) (p0 : Nat) (x1 : Int32) (x2 : Int32) (x3 : Int32) (v4 : AV) (v5 : AV) (h : AH) : Run sc n_X2_liveBefore 82 [aD p0, aI x1, aI x2, aI x3, v4, v5] none [] h = bF (getF sc h (aD p0) 5 0) (fun z => Run sc n_X2_liveBefore 88 [aD p0, aI x1, aI (nI 0), aI x3, v4, v5] none [z] h) := by
  refine (s_go mt_X2_liveBefore dX2_liveBefore_82 rfl).trans ?_
  refine (s_go mt_X2_liveBefore dX2_liveBefore_83 rfl).trans ?_
  refine (s_go mt_X2_liveBefore dX2_liveBefore_84 rfl).trans ?_
  exact q_getfield mt_X2_liveBefore dX2_liveBefore_85 rfl
theorem e_X2_liveBefore_95 (sc : SC) (p0 : Nat) (x1 : Int32) (x2 : Int32) (x3 : Int32) (x4 : Int32) (v5 : AV) (h : AH) : Run sc n_X2_liveBefore 95 [aD p0, aI x1, aI x2, aI x3, aI x4, v5] none [] h = Run sc n_X2_liveBefore (if x4 < 0 then 161 else 100) [aD p0, aI x1, aI x2, aI x3, aI x4, v5] none [] h := by
  refine (s_go mt_X2_liveBefore dX2_liveBefore_95 rfl).trans ?_
  exact q_if mt_X2_liveBefore dX2_liveBefore_97 (fun _ _ _ _ => rfl) rfl
theorem e_X2_liveBefore_100 (sc : SC) (p0 : Nat) (x1 : Int32) (x2 : Int32) (x3 : Int32) (x4 : Int32) (v5 : AV) (h : AH) : Run sc n_X2_liveBefore 100 [aD p0, aI x1, aI x2, aI x3, aI x4, v5] none [] h = bF (getF sc h (aD p0) 5 0) (fun z => Run sc n_X2_liveBefore 104 [aD p0, aI x1, aI x2, aI x3, aI x4, v5] none [z] h) := by
  refine (s_go mt_X2_liveBefore dX2_liveBefore_100 rfl).trans ?_
  exact q_getfield mt_X2_liveBefore dX2_liveBefore_101 rfl
theorem e_X2_liveBefore_112 (sc : SC) (p0 : Nat) (x1 : Int32) (x2 : Int32) (x3 : Int32) (x4 : Int32) (v5 : AV) (h : AH) : Run sc n_X2_liveBefore 112 [aD p0, aI x1, aI x2, aI x3, aI x4, v5] none [] h = Run sc n_X2_liveBefore 122 [aD p0, aI x1, aI x2, aI x3, aI x4, v5] none [aI (nI 0)] h := by
  refine (s_go mt_X2_liveBefore dX2_liveBefore_112 rfl).trans ?_
  refine (s_go mt_X2_liveBefore dX2_liveBefore_113 rfl).trans ?_
  exact rfl
theorem e_X2_liveBefore_116 (sc : SC) (p0 : Nat) (x1 : Int32) (x2 : Int32) (x3 : Int32) (x4 : Int32) (v5 : AV) (h : AH) : Run sc n_X2_liveBefore 116 [aD p0, aI x1, aI x2, aI x3, aI x4, v5] none [] h = bI (rOK sc h (aD p0) 5 = true) (bC (Call sc n_X2_liveFromFollowing [aD p0, aI x4] h) (fun v z => Run sc n_X2_liveBefore 122 [aD p0, aI x1, aI x2, aI x3, aI x4, v5] none (v.toList ++ []) z) (fun E z => some (.inr E, z))) := by
  refine (s_go mt_X2_liveBefore dX2_liveBefore_116 rfl).trans ?_
  refine (s_go mt_X2_liveBefore dX2_liveBefore_117 rfl).trans ?_
  exact q_cV mt_X2_liveBefore dX2_liveBefore_119 rfl mt_X2_liveFromFollowing rfl rfl rfl
theorem e_X2_liveBefore_122 (sc : SC) (p0 : Nat) (x1 : Int32) (x2 : Int32) (x3 : Int32) (x4 : Int32) (v5 : AV) (y0 : Int32) (h : AH) : Run sc n_X2_liveBefore 122 [aD p0, aI x1, aI x2, aI x3, aI x4, v5] none [aI y0] h = Run sc n_X2_liveBefore (if ¬ x2 = 0 then 140 else 128) [aD p0, aI x1, aI x2, aI x3, aI x4, aI y0] none [] h := by
  refine (s_go mt_X2_liveBefore dX2_liveBefore_122 rfl).trans ?_
  refine (s_go mt_X2_liveBefore dX2_liveBefore_124 rfl).trans ?_
  exact q_if mt_X2_liveBefore dX2_liveBefore_125 (fun _ _ _ _ => rfl) rfl
theorem e_X2_liveBefore_128 (sc : SC) (p0 : Nat) (x1 : Int32) (x2 : Int32) (x3 : Int32) (x4 : Int32) (x5 : Int32) (h : AH) : Run sc n_X2_liveBefore 128 [aD p0, aI x1, aI x2, aI x3, aI x4, aI x5] none [] h = bF (getF sc h (aD p0) 5 1) (fun z => Run sc n_X2_liveBefore 134 [aD p0, aI x1, aI x2, aI x3, aI x4, aI x5] none [z, aI x5] h) := by
  refine (s_go mt_X2_liveBefore dX2_liveBefore_128 rfl).trans ?_
  refine (s_go mt_X2_liveBefore dX2_liveBefore_130 rfl).trans ?_
  exact q_getfield mt_X2_liveBefore dX2_liveBefore_131 rfl
theorem e_X2_liveBefore_140 (sc : SC) (p0 : Nat) (x1 : Int32) (x2 : Int32) (x3 : Int32) (x4 : Int32) (x5 : Int32) (h : AH) : Run sc n_X2_liveBefore 140 [aD p0, aI x1, aI x2, aI x3, aI x4, aI x5] none [] h = Run sc n_X2_liveBefore 145 [aD p0, aI x1, aI x2, aI x3, aI x4, aI x5] none [aI (nI 1)] h := by
  refine (s_go mt_X2_liveBefore dX2_liveBefore_140 rfl).trans ?_
  refine (s_go mt_X2_liveBefore dX2_liveBefore_141 rfl).trans ?_
  exact rfl
theorem e_X2_liveBefore_144 (sc : SC) (p0 : Nat) (x1 : Int32) (x2 : Int32) (x3 : Int32) (x4 : Int32) (x5 : Int32) (h : AH) : Run sc n_X2_liveBefore 144 [aD p0, aI x1, aI x2, aI x3, aI x4, aI x5] none [] h = Run sc n_X2_liveBefore 145 [aD p0, aI x1, aI x2, aI x3, aI x4, aI x5] none [aI (nI 0)] h := by
  refine (s_go mt_X2_liveBefore dX2_liveBefore_144 rfl).trans ?_
  exact rfl
theorem e_X2_liveBefore_145 (sc : SC) (p0 : Nat) (x1 : Int32) (x2 : Int32) (x3 : Int32) (x4 : Int32) (x5 : Int32) (y0 : Int32) (h : AH) : Run sc n_X2_liveBefore 145 [aD p0, aI x1, aI x2, aI x3, aI x4, aI x5] none [aI y0] h = bF (getF sc h (aD p0) 5 1) (fun z => Run sc n_X2_liveBefore 150 [aD p0, aI x1, aI y0, aI x3, aI x4, aI x5] none [z] h) := by
  refine (s_go mt_X2_liveBefore dX2_liveBefore_145 rfl).trans ?_
  refine (s_go mt_X2_liveBefore dX2_liveBefore_146 rfl).trans ?_
  exact q_getfield mt_X2_liveBefore dX2_liveBefore_147 rfl
theorem e_X2_liveBefore_161 (sc : SC) (p0 : Nat) (x1 : Int32) (x2 : Int32) (x3 : Int32) (x4 : Int32) (v5 : AV) (h : AH) : Run sc n_X2_liveBefore 161 [aD p0, aI x1, aI x2, aI x3, aI x4, v5] none [] h = Run sc n_X2_liveBefore 71 [aD p0, aI x1, aI x2, aI (x3 + nI 1), aI x4, v5] none [] h := by
  refine (s_go mt_X2_liveBefore dX2_liveBefore_161 rfl).trans ?_
  refine (s_go mt_X2_liveBefore dX2_liveBefore_164 rfl).trans ?_
  exact rfl
theorem e_X2_liveBefore_167 (sc : SC) (p0 : Nat) (x1 : Int32) (x2 : Int32) (x3 : Int32) (v4 : AV) (v5 : AV) (h : AH) : Run sc n_X2_liveBefore 167 [aD p0, aI x1, aI x2, aI x3, v4, v5] none [] h = bF (getF sc h (aD p0) 5 1) (fun z => Run sc n_X2_liveBefore 171 [aD p0, aI x1, aI x2, aI x3, v4, v5] none [z] h) := by
  refine (s_go mt_X2_liveBefore dX2_liveBefore_167 rfl).trans ?_
  exact q_getfield mt_X2_liveBefore dX2_liveBefore_168 rfl
theorem e_X2_liveBefore_7 (sc : SC) (p0 : Nat) (x1 : Int32) (x2 : Int32) (v3 : AV) (v4 : AV) (v5 : AV) (y0 : Int32) (q1 : Nat) (h : AH) : Run sc n_X2_liveBefore 7 [aD p0, aI x1, aI x2, v3, v4, v5] none [aD q1, aI y0] h = bF (getF sc h (aD q1) 8 1) (fun z => Run sc n_X2_liveBefore 10 [aD p0, aI x1, aI x2, v3, v4, v5] none [z, aI y0] h) := by
  exact q_getfield mt_X2_liveBefore dX2_liveBefore_7 rfl
theorem e_X2_liveBefore_17 (sc : SC) (p0 : Nat) (x1 : Int32) (x2 : Int32) (v3 : AV) (v4 : AV) (v5 : AV) (q0 : Nat) (h : AH) : Run sc n_X2_liveBefore 17 [aD p0, aI x1, aI x2, v3, v4, v5] none [aD q0] h = bF (getF sc h (aD p0) 5 0) (fun z => Run sc n_X2_liveBefore 22 [aD p0, aI x1, aI x2, v3, v4, v5] none [z, aI x2, aD q0] h) := by
  refine (s_go mt_X2_liveBefore dX2_liveBefore_17 rfl).trans ?_
  refine (s_go mt_X2_liveBefore dX2_liveBefore_18 rfl).trans ?_
  exact q_getfield mt_X2_liveBefore dX2_liveBefore_19 rfl
theorem e_X2_liveBefore_58 (sc : SC) (p0 : Nat) (x1 : Int32) (x2 : Int32) (v3 : AV) (v4 : AV) (v5 : AV) (q0 : Nat) (h : AH) : Run sc n_X2_liveBefore 58 [aD p0, aI x1, aI x2, v3, v4, v5] none [aD q0] h = bF (getF sc h (aD p0) 5 0) (fun z => Run sc n_X2_liveBefore 62 [aD p0, aI x1, aI x2, v3, v4, v5] none [z, aD q0] h) := by
  refine (s_go mt_X2_liveBefore dX2_liveBefore_58 rfl).trans ?_
  exact q_getfield mt_X2_liveBefore dX2_liveBefore_59 rfl
theorem e_X2_liveBefore_88 (sc : SC) (p0 : Nat) (x1 : Int32) (x2 : Int32) (x3 : Int32) (v4 : AV) (v5 : AV) (q0 : Nat) (h : AH) : Run sc n_X2_liveBefore 88 [aD p0, aI x1, aI x2, aI x3, v4, v5] none [aD q0] h = bF (getF sc h (aD q0) 8 1) (fun z => Run sc n_X2_liveBefore 91 [aD p0, aI x1, aI x2, aI x3, v4, v5] none [z] h) := by
  exact q_getfield mt_X2_liveBefore dX2_liveBefore_88 rfl
theorem e_X2_liveBefore_104 (sc : SC) (p0 : Nat) (x1 : Int32) (x2 : Int32) (x3 : Int32) (x4 : Int32) (v5 : AV) (q0 : Nat) (h : AH) : Run sc n_X2_liveBefore 104 [aD p0, aI x1, aI x2, aI x3, aI x4, v5] none [aD q0] h = bI (rOK sc h (aD q0) 8 = true) (bC (Call sc n_X6_isSlot [aD q0, aI x4] h) (fun v z => Run sc n_X2_liveBefore 109 [aD p0, aI x1, aI x2, aI x3, aI x4, v5] none (v.toList ++ []) z) (fun E z => some (.inr E, z))) := by
  refine (s_go mt_X2_liveBefore dX2_liveBefore_104 rfl).trans ?_
  exact q_cV mt_X2_liveBefore dX2_liveBefore_106 rfl mt_X6_isSlot rfl rfl rfl
theorem e_X2_liveBefore_134 (sc : SC) (p0 : Nat) (x1 : Int32) (x2 : Int32) (x3 : Int32) (x4 : Int32) (x5 : Int32) (y0 : Int32) (q1 : Nat) (h : AH) : Run sc n_X2_liveBefore 134 [aD p0, aI x1, aI x2, aI x3, aI x4, aI x5] none [aD q1, aI y0] h = bO (ldI sc h (fun t => t == 0) (aD q1) x4) (fun z => Run sc n_X2_liveBefore 137 [aD p0, aI x1, aI x2, aI x3, aI x4, aI x5] none [aI z, aI y0] h) := by
  refine (s_go mt_X2_liveBefore dX2_liveBefore_134 rfl).trans ?_
  exact q_iaload mt_X2_liveBefore dX2_liveBefore_136
theorem e_X2_liveBefore_150 (sc : SC) (p0 : Nat) (x1 : Int32) (x2 : Int32) (x3 : Int32) (x4 : Int32) (x5 : Int32) (q0 : Nat) (h : AH) : Run sc n_X2_liveBefore 150 [aD p0, aI x1, aI x2, aI x3, aI x4, aI x5] none [aD q0] h = bO (stI h (fun t => t == 0) q0 x4 x5) (fun z => Run sc n_X2_liveBefore 155 [aD p0, aI x1, aI x2, aI x3, aI x4, aI x5] none [] z) := by
  refine (s_go mt_X2_liveBefore dX2_liveBefore_150 rfl).trans ?_
  refine (s_go mt_X2_liveBefore dX2_liveBefore_152 rfl).trans ?_
  exact q_iastore mt_X2_liveBefore dX2_liveBefore_154
theorem e_X2_liveBefore_171 (sc : SC) (p0 : Nat) (x1 : Int32) (x2 : Int32) (x3 : Int32) (v4 : AV) (v5 : AV) (q0 : Nat) (h : AH) : Run sc n_X2_liveBefore 171 [aD p0, aI x1, aI x2, aI x3, v4, v5] none [aD q0] h = bO (ldI sc h (fun t => t == 0) (aD q0) x1) (fun z => Run sc n_X2_liveBefore 173 [aD p0, aI x1, aI x2, aI x3, v4, v5] none [aI z] h) := by
  refine (s_go mt_X2_liveBefore dX2_liveBefore_171 rfl).trans ?_
  exact q_iaload mt_X2_liveBefore dX2_liveBefore_172
theorem e_X2_liveBefore_10 (sc : SC) (p0 : Nat) (x1 : Int32) (x2 : Int32) (v3 : AV) (v4 : AV) (v5 : AV) (y0 : Int32) (y1 : Int32) (h : AH) : Run sc n_X2_liveBefore 10 [aD p0, aI x1, aI x2, v3, v4, v5] none [aI y1, aI y0] h = Run sc n_X2_liveBefore (if y1 ≤ y0 then 54 else 13) [aD p0, aI x1, aI x2, v3, v4, v5] none [] h := by
  exact q_icmp mt_X2_liveBefore dX2_liveBefore_10 (fun _ _ _ _ => rfl) rfl
theorem e_X2_liveBefore_22 (sc : SC) (p0 : Nat) (x1 : Int32) (x2 : Int32) (v3 : AV) (v4 : AV) (v5 : AV) (q0 : Nat) (y1 : Int32) (q2 : Nat) (h : AH) : Run sc n_X2_liveBefore 22 [aD p0, aI x1, aI x2, v3, v4, v5] none [aD q2, aI y1, aD q0] h = bI (rOK sc h (aD q2) 8 = true) (bC (Call sc n_X6_reads [aD q2, aI x2] h) (fun v z => Run sc n_X2_liveBefore 26 [aD p0, aI x1, aI x2, v3, v4, v5] none (v.toList ++ [aI y1, aD q0]) z) (fun E z => some (.inr E, z))) := by
  refine (s_go mt_X2_liveBefore dX2_liveBefore_22 rfl).trans ?_
  exact q_cV mt_X2_liveBefore dX2_liveBefore_23 rfl mt_X6_reads rfl rfl rfl
theorem e_X2_liveBefore_62 (sc : SC) (p0 : Nat) (x1 : Int32) (x2 : Int32) (v3 : AV) (v4 : AV) (v5 : AV) (q0 : Nat) (q1 : Nat) (h : AH) : Run sc n_X2_liveBefore 62 [aD p0, aI x1, aI x2, v3, v4, v5] none [aD q1, aD q0] h = bF (getF sc h (aD q1) 8 1) (fun z => Run sc n_X2_liveBefore 65 [aD p0, aI x1, aI x2, v3, v4, v5] none [z, aD q0] h) := by
  exact q_getfield mt_X2_liveBefore dX2_liveBefore_62 rfl
theorem e_X2_liveBefore_91 (sc : SC) (p0 : Nat) (x1 : Int32) (x2 : Int32) (x3 : Int32) (v4 : AV) (v5 : AV) (y0 : Int32) (h : AH) : Run sc n_X2_liveBefore 91 [aD p0, aI x1, aI x2, aI x3, v4, v5] none [aI y0] h = Run sc n_X2_liveBefore 95 [aD p0, aI x1, aI x2, aI x3, aI (y0 - (nI 1)), v5] none [] h := by
  refine (s_go mt_X2_liveBefore dX2_liveBefore_91 rfl).trans ?_
  refine (s_go mt_X2_liveBefore dX2_liveBefore_92 rfl).trans ?_
  refine (s_go mt_X2_liveBefore dX2_liveBefore_93 rfl).trans ?_
  exact rfl
theorem e_X2_liveBefore_109 (sc : SC) (p0 : Nat) (x1 : Int32) (x2 : Int32) (x3 : Int32) (x4 : Int32) (v5 : AV) (y0 : Int32) (h : AH) : Run sc n_X2_liveBefore 109 [aD p0, aI x1, aI x2, aI x3, aI x4, v5] none [aI y0] h = Run sc n_X2_liveBefore (if y0 = 0 then 116 else 112) [aD p0, aI x1, aI x2, aI x3, aI x4, v5] none [] h := by
  exact q_if mt_X2_liveBefore dX2_liveBefore_109 (fun _ _ _ _ => rfl) rfl
theorem e_X2_liveBefore_137 (sc : SC) (p0 : Nat) (x1 : Int32) (x2 : Int32) (x3 : Int32) (x4 : Int32) (x5 : Int32) (y0 : Int32) (y1 : Int32) (h : AH) : Run sc n_X2_liveBefore 137 [aD p0, aI x1, aI x2, aI x3, aI x4, aI x5] none [aI y1, aI y0] h = Run sc n_X2_liveBefore (if y0 = y1 then 144 else 140) [aD p0, aI x1, aI x2, aI x3, aI x4, aI x5] none [] h := by
  exact q_icmp mt_X2_liveBefore dX2_liveBefore_137 (fun _ _ _ _ => rfl) rfl
theorem e_X2_liveBefore_155 (sc : SC) (p0 : Nat) (x1 : Int32) (x2 : Int32) (x3 : Int32) (x4 : Int32) (x5 : Int32) (h : AH) : Run sc n_X2_liveBefore 155 [aD p0, aI x1, aI x2, aI x3, aI x4, aI x5] none [] h = Run sc n_X2_liveBefore 95 [aD p0, aI x1, aI x2, aI x3, aI (x4 + (-1)), aI x5] none [] h := by
  refine (s_go mt_X2_liveBefore dX2_liveBefore_155 rfl).trans ?_
  refine (s_go mt_X2_liveBefore dX2_liveBefore_158 rfl).trans ?_
  exact rfl
theorem e_X2_liveBefore_173 (sc : SC) (p0 : Nat) (x1 : Int32) (x2 : Int32) (x3 : Int32) (v4 : AV) (v5 : AV) (y0 : Int32) (h : AH) : Run sc n_X2_liveBefore 173 [aD p0, aI x1, aI x2, aI x3, v4, v5] none [aI y0] h = some (.inl (some (aI y0)), h) := by
  exact q_ret (c := (some (aI y0), h)) mt_X2_liveBefore dX2_liveBefore_173 rfl
theorem e_X2_liveBefore_26 (sc : SC) (p0 : Nat) (x1 : Int32) (x2 : Int32) (v3 : AV) (v4 : AV) (v5 : AV) (q0 : Nat) (y1 : Int32) (y2 : Int32) (h : AH) : Run sc n_X2_liveBefore 26 [aD p0, aI x1, aI x2, v3, v4, v5] none [aI y2, aI y1, aD q0] h = bO (stI h (fun t => t == 0) q0 y1 y2) (fun z => Run sc n_X2_liveBefore 27 [aD p0, aI x1, aI x2, v3, v4, v5] none [] z) := by
  exact q_iastore mt_X2_liveBefore dX2_liveBefore_26
theorem e_X2_liveBefore_65 (sc : SC) (p0 : Nat) (x1 : Int32) (x2 : Int32) (v3 : AV) (v4 : AV) (v5 : AV) (q0 : Nat) (y1 : Int32) (h : AH) : Run sc n_X2_liveBefore 65 [aD p0, aI x1, aI x2, v3, v4, v5] none [aI y1, aD q0] h = bO (stI h (fun t => t == 0) q0 y1 (nI 0)) (fun z => Run sc n_X2_liveBefore 67 [aD p0, aI x1, aI x2, v3, v4, v5] none [] z) := by
  refine (s_go mt_X2_liveBefore dX2_liveBefore_65 rfl).trans ?_
  exact q_iastore mt_X2_liveBefore dX2_liveBefore_66
theorem e_X2_liveBefore_27 (sc : SC) (p0 : Nat) (x1 : Int32) (x2 : Int32) (v3 : AV) (v4 : AV) (v5 : AV) (h : AH) : Run sc n_X2_liveBefore 27 [aD p0, aI x1, aI x2, v3, v4, v5] none [] h = bF (getF sc h (aD p0) 5 3) (fun z => Run sc n_X2_liveBefore 31 [aD p0, aI x1, aI x2, v3, v4, v5] none [z] h) := by
  refine (s_go mt_X2_liveBefore dX2_liveBefore_27 rfl).trans ?_
  exact q_getfield mt_X2_liveBefore dX2_liveBefore_28 rfl
theorem e_X2_liveBefore_67 (sc : SC) (p0 : Nat) (x1 : Int32) (x2 : Int32) (v3 : AV) (v4 : AV) (v5 : AV) (h : AH) : Run sc n_X2_liveBefore 67 [aD p0, aI x1, aI x2, v3, v4, v5] none [] h = Run sc n_X2_liveBefore 71 [aD p0, aI x1, aI (nI 1), aI (nI 0), v4, v5] none [] h := by
  refine (s_go mt_X2_liveBefore dX2_liveBefore_67 rfl).trans ?_
  refine (s_go mt_X2_liveBefore dX2_liveBefore_68 rfl).trans ?_
  refine (s_go mt_X2_liveBefore dX2_liveBefore_69 rfl).trans ?_
  refine (s_go mt_X2_liveBefore dX2_liveBefore_70 rfl).trans ?_
  exact rfl
theorem e_X2_liveBefore_31 (sc : SC) (p0 : Nat) (x1 : Int32) (x2 : Int32) (v3 : AV) (v4 : AV) (v5 : AV) (q0 : Nat) (h : AH) : Run sc n_X2_liveBefore 31 [aD p0, aI x1, aI x2, v3, v4, v5] none [aD q0] h = bF (getF sc h (aD p0) 5 0) (fun z => Run sc n_X2_liveBefore 36 [aD p0, aI x1, aI x2, v3, v4, v5] none [z, aI x2, aD q0] h) := by
  refine (s_go mt_X2_liveBefore dX2_liveBefore_31 rfl).trans ?_
  refine (s_go mt_X2_liveBefore dX2_liveBefore_32 rfl).trans ?_
  exact q_getfield mt_X2_liveBefore dX2_liveBefore_33 rfl
theorem e_X2_liveBefore_36 (sc : SC) (p0 : Nat) (x1 : Int32) (x2 : Int32) (v3 : AV) (v4 : AV) (v5 : AV) (q0 : Nat) (y1 : Int32) (q2 : Nat) (h : AH) : Run sc n_X2_liveBefore 36 [aD p0, aI x1, aI x2, v3, v4, v5] none [aD q2, aI y1, aD q0] h = bI (rOK sc h (aD q2) 8 = true) (bC (Call sc n_X6_writes [aD q2, aI x2] h) (fun v z => Run sc n_X2_liveBefore 40 [aD p0, aI x1, aI x2, v3, v4, v5] none (v.toList ++ [aI y1, aD q0]) z) (fun E z => some (.inr E, z))) := by
  refine (s_go mt_X2_liveBefore dX2_liveBefore_36 rfl).trans ?_
  exact q_cV mt_X2_liveBefore dX2_liveBefore_37 rfl mt_X6_writes rfl rfl rfl
theorem e_X2_liveBefore_40 (sc : SC) (p0 : Nat) (x1 : Int32) (x2 : Int32) (v3 : AV) (v4 : AV) (v5 : AV) (q0 : Nat) (y1 : Int32) (y2 : Int32) (h : AH) : Run sc n_X2_liveBefore 40 [aD p0, aI x1, aI x2, v3, v4, v5] none [aI y2, aI y1, aD q0] h = bO (stI h (fun t => t == 0) q0 y1 y2) (fun z => Run sc n_X2_liveBefore 41 [aD p0, aI x1, aI x2, v3, v4, v5] none [] z) := by
  exact q_iastore mt_X2_liveBefore dX2_liveBefore_40
theorem e_X2_liveBefore_41 (sc : SC) (p0 : Nat) (x1 : Int32) (x2 : Int32) (v3 : AV) (v4 : AV) (v5 : AV) (h : AH) : Run sc n_X2_liveBefore 41 [aD p0, aI x1, aI x2, v3, v4, v5] none [] h = bF (getF sc h (aD p0) 5 1) (fun z => Run sc n_X2_liveBefore 45 [aD p0, aI x1, aI x2, v3, v4, v5] none [z] h) := by
  refine (s_go mt_X2_liveBefore dX2_liveBefore_41 rfl).trans ?_
  exact q_getfield mt_X2_liveBefore dX2_liveBefore_42 rfl
theorem e_X2_liveBefore_45 (sc : SC) (p0 : Nat) (x1 : Int32) (x2 : Int32) (v3 : AV) (v4 : AV) (v5 : AV) (q0 : Nat) (h : AH) : Run sc n_X2_liveBefore 45 [aD p0, aI x1, aI x2, v3, v4, v5] none [aD q0] h = bO (stI h (fun t => t == 0) q0 x2 (nI 0)) (fun z => Run sc n_X2_liveBefore 48 [aD p0, aI x1, aI x2, v3, v4, v5] none [] z) := by
  refine (s_go mt_X2_liveBefore dX2_liveBefore_45 rfl).trans ?_
  refine (s_go mt_X2_liveBefore dX2_liveBefore_46 rfl).trans ?_
  exact q_iastore mt_X2_liveBefore dX2_liveBefore_47
theorem e_X2_liveBefore_48 (sc : SC) (p0 : Nat) (x1 : Int32) (x2 : Int32) (v3 : AV) (v4 : AV) (v5 : AV) (h : AH) : Run sc n_X2_liveBefore 48 [aD p0, aI x1, aI x2, v3, v4, v5] none [] h = Run sc n_X2_liveBefore 2 [aD p0, aI x1, aI (x2 + nI 1), v3, v4, v5] none [] h := by
  refine (s_go mt_X2_liveBefore dX2_liveBefore_48 rfl).trans ?_
  refine (s_go mt_X2_liveBefore dX2_liveBefore_51 rfl).trans ?_
  exact rfl
/-! BranchSlotFiller$Filler.<init>(LBranchSlotFiller$Program;LBranchSlotFiller$Flow;)V -/
theorem e_X1_init_0 (sc : SC) (p0 : Nat) (p1 : Nat) (p2 : Nat) (h : AH) : Run sc n_X1_init 0 [aD p0, aD p1, aD p2] none [] h = bO (putF h p0 4 0 3 (aD p1)) (fun z => Run sc n_X1_init 9 [aD p0, aD p1, aD p2] none [] z) := by
  refine (s_go mt_X1_init dX1_init_0 rfl).trans ?_
  refine (s_go mt_X1_init dX1_init_1 rfl).trans ?_
  refine (s_go mt_X1_init dX1_init_4 rfl).trans ?_
  refine (s_go mt_X1_init dX1_init_5 rfl).trans ?_
  exact q_putfield mt_X1_init dX1_init_6 rfl rfl rfl rfl
theorem e_X1_init_9 (sc : SC) (p0 : Nat) (p1 : Nat) (p2 : Nat) (h : AH) : Run sc n_X1_init 9 [aD p0, aD p1, aD p2] none [] h = bO (putF h p0 4 1 3 (aD p2)) (fun z => Run sc n_X1_init 14 [aD p0, aD p1, aD p2] none [] z) := by
  refine (s_go mt_X1_init dX1_init_9 rfl).trans ?_
  refine (s_go mt_X1_init dX1_init_10 rfl).trans ?_
  exact q_putfield mt_X1_init dX1_init_11 rfl rfl rfl rfl
theorem e_X1_init_14 (sc : SC) (p0 : Nat) (p1 : Nat) (p2 : Nat) (h : AH) : Run sc n_X1_init 14 [aD p0, aD p1, aD p2] none [] h = some (.inl none, h) := by
  exact q_ret (c := (none, h)) mt_X1_init dX1_init_14 rfl
/-! BranchSlotFiller$Filler.canPass(II)Z -/
theorem e_X1_canPass_0 (sc : SC) (p0 : Nat) (x1 : Int32) (x2 : Int32) (v3 : AV) (h : AH) : Run sc n_X1_canPass 0 [aD p0, aI x1, aI x2, v3] none [] h = Run sc n_X1_canPass 4 [aD p0, aI x1, aI x2, aI (x1 + (nI 1))] none [] h := by
  refine (s_go mt_X1_canPass dX1_canPass_0 rfl).trans ?_
  refine (s_go mt_X1_canPass dX1_canPass_1 rfl).trans ?_
  refine (s_go mt_X1_canPass dX1_canPass_2 rfl).trans ?_
  refine (s_go mt_X1_canPass dX1_canPass_3 rfl).trans ?_
  exact rfl
theorem e_X1_canPass_4 (sc : SC) (p0 : Nat) (x1 : Int32) (x2 : Int32) (x3 : Int32) (h : AH) : Run sc n_X1_canPass 4 [aD p0, aI x1, aI x2, aI x3] none [] h = Run sc n_X1_canPass (if x2 < x3 then 29 else 9) [aD p0, aI x1, aI x2, aI x3] none [] h := by
  refine (s_go mt_X1_canPass dX1_canPass_4 rfl).trans ?_
  refine (s_go mt_X1_canPass dX1_canPass_5 rfl).trans ?_
  exact q_icmp mt_X1_canPass dX1_canPass_6 (fun _ _ _ _ => rfl) rfl
theorem e_X1_canPass_9 (sc : SC) (p0 : Nat) (x1 : Int32) (x2 : Int32) (x3 : Int32) (h : AH) : Run sc n_X1_canPass 9 [aD p0, aI x1, aI x2, aI x3] none [] h = bF (getF sc h (aD p0) 4 0) (fun z => Run sc n_X1_canPass 13 [aD p0, aI x1, aI x2, aI x3] none [z] h) := by
  refine (s_go mt_X1_canPass dX1_canPass_9 rfl).trans ?_
  exact q_getfield mt_X1_canPass dX1_canPass_10 rfl
theorem e_X1_canPass_21 (sc : SC) (p0 : Nat) (x1 : Int32) (x2 : Int32) (x3 : Int32) (h : AH) : Run sc n_X1_canPass 21 [aD p0, aI x1, aI x2, aI x3] none [] h = some (.inl (some (aI (nI 0))), h) := by
  refine (s_go mt_X1_canPass dX1_canPass_21 rfl).trans ?_
  exact q_ret (c := (some (aI (nI 0)), h)) mt_X1_canPass dX1_canPass_22 rfl
theorem e_X1_canPass_23 (sc : SC) (p0 : Nat) (x1 : Int32) (x2 : Int32) (x3 : Int32) (h : AH) : Run sc n_X1_canPass 23 [aD p0, aI x1, aI x2, aI x3] none [] h = Run sc n_X1_canPass 4 [aD p0, aI x1, aI x2, aI (x3 + nI 1)] none [] h := by
  refine (s_go mt_X1_canPass dX1_canPass_23 rfl).trans ?_
  refine (s_go mt_X1_canPass dX1_canPass_26 rfl).trans ?_
  exact rfl
theorem e_X1_canPass_29 (sc : SC) (p0 : Nat) (x1 : Int32) (x2 : Int32) (x3 : Int32) (h : AH) : Run sc n_X1_canPass 29 [aD p0, aI x1, aI x2, aI x3] none [] h = some (.inl (some (aI (nI 1))), h) := by
  refine (s_go mt_X1_canPass dX1_canPass_29 rfl).trans ?_
  exact q_ret (c := (some (aI (nI 1)), h)) mt_X1_canPass dX1_canPass_30 rfl
theorem e_X1_canPass_13 (sc : SC) (p0 : Nat) (x1 : Int32) (x2 : Int32) (x3 : Int32) (q0 : Nat) (h : AH) : Run sc n_X1_canPass 13 [aD p0, aI x1, aI x2, aI x3] none [aD q0] h = bI (rOK sc h (aD q0) 8 = true) (bC (Call sc n_X6_areIndependent [aD q0, aI x1, aI x3] h) (fun v z => Run sc n_X1_canPass 18 [aD p0, aI x1, aI x2, aI x3] none (v.toList ++ []) z) (fun E z => some (.inr E, z))) := by
  refine (s_go mt_X1_canPass dX1_canPass_13 rfl).trans ?_
  refine (s_go mt_X1_canPass dX1_canPass_14 rfl).trans ?_
  exact q_cV mt_X1_canPass dX1_canPass_15 rfl mt_X6_areIndependent rfl rfl rfl
theorem e_X1_canPass_18 (sc : SC) (p0 : Nat) (x1 : Int32) (x2 : Int32) (x3 : Int32) (y0 : Int32) (h : AH) : Run sc n_X1_canPass 18 [aD p0, aI x1, aI x2, aI x3] none [aI y0] h = Run sc n_X1_canPass (if ¬ y0 = 0 then 23 else 21) [aD p0, aI x1, aI x2, aI x3] none [] h := by
  exact q_if mt_X1_canPass dX1_canPass_18 (fun _ _ _ _ => rfl) rfl
/-! BranchSlotFiller$Filler.findBefore(I)I -/
theorem e_X1_findBefore_0 (sc : SC) (p0 : Nat) (x1 : Int32) (v2 : AV) (v3 : AV) (h : AH) : Run sc n_X1_findBefore 0 [aD p0, aI x1, v2, v3] none [] h = bF (getF sc h (aD p0) 4 0) (fun z => Run sc n_X1_findBefore 4 [aD p0, aI x1, v2, v3] none [z] h) := by
  refine (s_go mt_X1_findBefore dX1_findBefore_0 rfl).trans ?_
  exact q_getfield mt_X1_findBefore dX1_findBefore_1 rfl
theorem e_X1_findBefore_11 (sc : SC) (p0 : Nat) (x1 : Int32) (v2 : AV) (v3 : AV) (h : AH) : Run sc n_X1_findBefore 11 [aD p0, aI x1, v2, v3] none [] h = some (.inl (some (aI (-1))), h) := by
  refine (s_go mt_X1_findBefore dX1_findBefore_11 rfl).trans ?_
  exact q_ret (c := (some (aI (-1)), h)) mt_X1_findBefore dX1_findBefore_12 rfl
theorem e_X1_findBefore_13 (sc : SC) (p0 : Nat) (x1 : Int32) (v2 : AV) (v3 : AV) (h : AH) : Run sc n_X1_findBefore 13 [aD p0, aI x1, v2, v3] none [] h = Run sc n_X1_findBefore 17 [aD p0, aI x1, aI (x1 - (nI 1)), v3] none [] h := by
  refine (s_go mt_X1_findBefore dX1_findBefore_13 rfl).trans ?_
  refine (s_go mt_X1_findBefore dX1_findBefore_14 rfl).trans ?_
  refine (s_go mt_X1_findBefore dX1_findBefore_15 rfl).trans ?_
  refine (s_go mt_X1_findBefore dX1_findBefore_16 rfl).trans ?_
  exact rfl
theorem e_X1_findBefore_17 (sc : SC) (p0 : Nat) (x1 : Int32) (x2 : Int32) (v3 : AV) (h : AH) : Run sc n_X1_findBefore 17 [aD p0, aI x1, aI x2, v3] none [] h = Run sc n_X1_findBefore (if x2 < 0 then 94 else 21) [aD p0, aI x1, aI x2, v3] none [] h := by
  refine (s_go mt_X1_findBefore dX1_findBefore_17 rfl).trans ?_
  exact q_if mt_X1_findBefore dX1_findBefore_18 (fun _ _ _ _ => rfl) rfl
theorem e_X1_findBefore_21 (sc : SC) (p0 : Nat) (x1 : Int32) (x2 : Int32) (v3 : AV) (h : AH) : Run sc n_X1_findBefore 21 [aD p0, aI x1, aI x2, v3] none [] h = bF (getF sc h (aD p0) 4 0) (fun z => Run sc n_X1_findBefore 25 [aD p0, aI x1, aI x2, v3] none [z] h) := by
  refine (s_go mt_X1_findBefore dX1_findBefore_21 rfl).trans ?_
  exact q_getfield mt_X1_findBefore dX1_findBefore_22 rfl
theorem e_X1_findBefore_37 (sc : SC) (p0 : Nat) (x1 : Int32) (x2 : Int32) (c3 : Nat) (h : AH) : Run sc n_X1_findBefore 37 [aD p0, aI x1, aI x2, aC c3] none [] h = bI (1 ≤ c3 ∧ c3 < 13 ∧ 1 ≤ 12 ∧ 12 < 13) (Run sc n_X1_findBefore (if c3 = 12 then 55 else 44) [aD p0, aI x1, aI x2, aC c3] none [] h) := by
  refine (s_go mt_X1_findBefore dX1_findBefore_37 rfl).trans ?_
  refine (s_go mt_X1_findBefore dX1_findBefore_38 rfl).trans ?_
  exact q_acmpeq mt_X1_findBefore dX1_findBefore_41 rfl
theorem e_X1_findBefore_44 (sc : SC) (p0 : Nat) (x1 : Int32) (x2 : Int32) (c3 : Nat) (h : AH) : Run sc n_X1_findBefore 44 [aD p0, aI x1, aI x2, aC c3] none [] h = bF (getF sc h (aD p0) 4 0) (fun z => Run sc n_X1_findBefore 48 [aD p0, aI x1, aI x2, aC c3] none [z] h) := by
  refine (s_go mt_X1_findBefore dX1_findBefore_44 rfl).trans ?_
  exact q_getfield mt_X1_findBefore dX1_findBefore_45 rfl
theorem e_X1_findBefore_55 (sc : SC) (p0 : Nat) (x1 : Int32) (x2 : Int32) (c3 : Nat) (h : AH) : Run sc n_X1_findBefore 55 [aD p0, aI x1, aI x2, aC c3] none [] h = some (.inl (some (aI (-1))), h) := by
  refine (s_go mt_X1_findBefore dX1_findBefore_55 rfl).trans ?_
  exact q_ret (c := (some (aI (-1)), h)) mt_X1_findBefore dX1_findBefore_56 rfl
theorem e_X1_findBefore_57 (sc : SC) (p0 : Nat) (x1 : Int32) (x2 : Int32) (c3 : Nat) (h : AH) : Run sc n_X1_findBefore 57 [aD p0, aI x1, aI x2, aC c3] none [] h = bI (rOK sc h (aC c3) 100 = true) (bC (Call sc n_X4_canFill [aC c3] h) (fun v z => Run sc n_X1_findBefore 61 [aD p0, aI x1, aI x2, aC c3] none (v.toList ++ []) z) (fun E z => some (.inr E, z))) := by
  refine (s_go mt_X1_findBefore dX1_findBefore_57 rfl).trans ?_
  exact q_cV mt_X1_findBefore dX1_findBefore_58 rfl mt_X4_canFill rfl rfl rfl
theorem e_X1_findBefore_64 (sc : SC) (p0 : Nat) (x1 : Int32) (x2 : Int32) (c3 : Nat) (h : AH) : Run sc n_X1_findBefore 64 [aD p0, aI x1, aI x2, aC c3] none [] h = bI (rOK sc h (aD p0) 4 = true) (bC (Call sc n_X1_canPass [aD p0, aI x2, aI x1] h) (fun v z => Run sc n_X1_findBefore 70 [aD p0, aI x1, aI x2, aC c3] none (v.toList ++ []) z) (fun E z => some (.inr E, z))) := by
  refine (s_go mt_X1_findBefore dX1_findBefore_64 rfl).trans ?_
  refine (s_go mt_X1_findBefore dX1_findBefore_65 rfl).trans ?_
  refine (s_go mt_X1_findBefore dX1_findBefore_66 rfl).trans ?_
  exact q_cV mt_X1_findBefore dX1_findBefore_67 rfl mt_X1_canPass rfl rfl rfl
theorem e_X1_findBefore_73 (sc : SC) (p0 : Nat) (x1 : Int32) (x2 : Int32) (c3 : Nat) (h : AH) : Run sc n_X1_findBefore 73 [aD p0, aI x1, aI x2, aC c3] none [] h = some (.inl (some (aI x2)), h) := by
  refine (s_go mt_X1_findBefore dX1_findBefore_73 rfl).trans ?_
  exact q_ret (c := (some (aI x2), h)) mt_X1_findBefore dX1_findBefore_74 rfl
theorem e_X1_findBefore_75 (sc : SC) (p0 : Nat) (x1 : Int32) (x2 : Int32) (c3 : Nat) (h : AH) : Run sc n_X1_findBefore 75 [aD p0, aI x1, aI x2, aC c3] none [] h = bF (getF sc h (aD p0) 4 0) (fun z => Run sc n_X1_findBefore 79 [aD p0, aI x1, aI x2, aC c3] none [z] h) := by
  refine (s_go mt_X1_findBefore dX1_findBefore_75 rfl).trans ?_
  exact q_getfield mt_X1_findBefore dX1_findBefore_76 rfl
theorem e_X1_findBefore_86 (sc : SC) (p0 : Nat) (x1 : Int32) (x2 : Int32) (c3 : Nat) (h : AH) : Run sc n_X1_findBefore 86 [aD p0, aI x1, aI x2, aC c3] none [] h = some (.inl (some (aI (-1))), h) := by
  refine (s_go mt_X1_findBefore dX1_findBefore_86 rfl).trans ?_
  exact q_ret (c := (some (aI (-1)), h)) mt_X1_findBefore dX1_findBefore_87 rfl
theorem e_X1_findBefore_88 (sc : SC) (p0 : Nat) (x1 : Int32) (x2 : Int32) (c3 : Nat) (h : AH) : Run sc n_X1_findBefore 88 [aD p0, aI x1, aI x2, aC c3] none [] h = Run sc n_X1_findBefore 17 [aD p0, aI x1, aI (x2 + (-1)), aC c3] none [] h := by
  refine (s_go mt_X1_findBefore dX1_findBefore_88 rfl).trans ?_
  refine (s_go mt_X1_findBefore dX1_findBefore_91 rfl).trans ?_
  exact rfl
theorem e_X1_findBefore_94 (sc : SC) (p0 : Nat) (x1 : Int32) (x2 : Int32) (v3 : AV) (h : AH) : Run sc n_X1_findBefore 94 [aD p0, aI x1, aI x2, v3] none [] h = some (.inl (some (aI (-1))), h) := by
  refine (s_go mt_X1_findBefore dX1_findBefore_94 rfl).trans ?_
  exact q_ret (c := (some (aI (-1)), h)) mt_X1_findBefore dX1_findBefore_95 rfl
theorem e_X1_findBefore_4 (sc : SC) (p0 : Nat) (x1 : Int32) (v2 : AV) (v3 : AV) (q0 : Nat) (h : AH) : Run sc n_X1_findBefore 4 [aD p0, aI x1, v2, v3] none [aD q0] h = bI (rOK sc h (aD q0) 8 = true) (bC (Call sc n_X6_branchesTo [aD q0, aI x1] h) (fun v z => Run sc n_X1_findBefore 8 [aD p0, aI x1, v2, v3] none (v.toList ++ []) z) (fun E z => some (.inr E, z))) := by
  refine (s_go mt_X1_findBefore dX1_findBefore_4 rfl).trans ?_
  exact q_cV mt_X1_findBefore dX1_findBefore_5 rfl mt_X6_branchesTo rfl rfl rfl
theorem e_X1_findBefore_25 (sc : SC) (p0 : Nat) (x1 : Int32) (x2 : Int32) (v3 : AV) (q0 : Nat) (h : AH) : Run sc n_X1_findBefore 25 [aD p0, aI x1, aI x2, v3] none [aD q0] h = bI (rOK sc h (aD q0) 8 = true) (bC (Call sc n_X6_kind [aD q0, aI x2] h) (fun v z => Run sc n_X1_findBefore 29 [aD p0, aI x1, aI x2, v3] none (v.toList ++ []) z) (fun E z => some (.inr E, z))) := by
  refine (s_go mt_X1_findBefore dX1_findBefore_25 rfl).trans ?_
  exact q_cV mt_X1_findBefore dX1_findBefore_26 rfl mt_X6_kind rfl rfl rfl
theorem e_X1_findBefore_48 (sc : SC) (p0 : Nat) (x1 : Int32) (x2 : Int32) (c3 : Nat) (q0 : Nat) (h : AH) : Run sc n_X1_findBefore 48 [aD p0, aI x1, aI x2, aC c3] none [aD q0] h = bI (rOK sc h (aD q0) 8 = true) (bC (Call sc n_X6_isSlot [aD q0, aI x2] h) (fun v z => Run sc n_X1_findBefore 52 [aD p0, aI x1, aI x2, aC c3] none (v.toList ++ []) z) (fun E z => some (.inr E, z))) := by
  refine (s_go mt_X1_findBefore dX1_findBefore_48 rfl).trans ?_
  exact q_cV mt_X1_findBefore dX1_findBefore_49 rfl mt_X6_isSlot rfl rfl rfl
theorem e_X1_findBefore_61 (sc : SC) (p0 : Nat) (x1 : Int32) (x2 : Int32) (c3 : Nat) (y0 : Int32) (h : AH) : Run sc n_X1_findBefore 61 [aD p0, aI x1, aI x2, aC c3] none [aI y0] h = Run sc n_X1_findBefore (if y0 = 0 then 75 else 64) [aD p0, aI x1, aI x2, aC c3] none [] h := by
  exact q_if mt_X1_findBefore dX1_findBefore_61 (fun _ _ _ _ => rfl) rfl
theorem e_X1_findBefore_70 (sc : SC) (p0 : Nat) (x1 : Int32) (x2 : Int32) (c3 : Nat) (y0 : Int32) (h : AH) : Run sc n_X1_findBefore 70 [aD p0, aI x1, aI x2, aC c3] none [aI y0] h = Run sc n_X1_findBefore (if y0 = 0 then 75 else 73) [aD p0, aI x1, aI x2, aC c3] none [] h := by
  exact q_if mt_X1_findBefore dX1_findBefore_70 (fun _ _ _ _ => rfl) rfl
theorem e_X1_findBefore_79 (sc : SC) (p0 : Nat) (x1 : Int32) (x2 : Int32) (c3 : Nat) (q0 : Nat) (h : AH) : Run sc n_X1_findBefore 79 [aD p0, aI x1, aI x2, aC c3] none [aD q0] h = bI (rOK sc h (aD q0) 8 = true) (bC (Call sc n_X6_branchesTo [aD q0, aI x2] h) (fun v z => Run sc n_X1_findBefore 83 [aD p0, aI x1, aI x2, aC c3] none (v.toList ++ []) z) (fun E z => some (.inr E, z))) := by
  refine (s_go mt_X1_findBefore dX1_findBefore_79 rfl).trans ?_
  exact q_cV mt_X1_findBefore dX1_findBefore_80 rfl mt_X6_branchesTo rfl rfl rfl
theorem e_X1_findBefore_8 (sc : SC) (p0 : Nat) (x1 : Int32) (v2 : AV) (v3 : AV) (y0 : Int32) (h : AH) : Run sc n_X1_findBefore 8 [aD p0, aI x1, v2, v3] none [aI y0] h = Run sc n_X1_findBefore (if y0 ≤ 0 then 13 else 11) [aD p0, aI x1, v2, v3] none [] h := by
  exact q_if mt_X1_findBefore dX1_findBefore_8 (fun _ _ _ _ => rfl) rfl
theorem e_X1_findBefore_29 (sc : SC) (p0 : Nat) (x1 : Int32) (x2 : Int32) (v3 : AV) (d0 : Nat) (h : AH) : Run sc n_X1_findBefore 29 [aD p0, aI x1, aI x2, v3] none [aC d0] h = bF (getF sc h (aC d0) 100 6) (fun z => Run sc n_X1_findBefore 34 [aD p0, aI x1, aI x2, aC d0] none [z] h) := by
  refine (s_go mt_X1_findBefore dX1_findBefore_29 rfl).trans ?_
  refine (s_go mt_X1_findBefore dX1_findBefore_30 rfl).trans ?_
  exact q_getfield mt_X1_findBefore dX1_findBefore_31 rfl
theorem e_X1_findBefore_52 (sc : SC) (p0 : Nat) (x1 : Int32) (x2 : Int32) (c3 : Nat) (y0 : Int32) (h : AH) : Run sc n_X1_findBefore 52 [aD p0, aI x1, aI x2, aC c3] none [aI y0] h = Run sc n_X1_findBefore (if y0 = 0 then 57 else 55) [aD p0, aI x1, aI x2, aC c3] none [] h := by
  exact q_if mt_X1_findBefore dX1_findBefore_52 (fun _ _ _ _ => rfl) rfl
theorem e_X1_findBefore_83 (sc : SC) (p0 : Nat) (x1 : Int32) (x2 : Int32) (c3 : Nat) (y0 : Int32) (h : AH) : Run sc n_X1_findBefore 83 [aD p0, aI x1, aI x2, aC c3] none [aI y0] h = Run sc n_X1_findBefore (if y0 ≤ 0 then 88 else 86) [aD p0, aI x1, aI x2, aC c3] none [] h := by
  exact q_if mt_X1_findBefore dX1_findBefore_83 (fun _ _ _ _ => rfl) rfl
theorem e_X1_findBefore_34 (sc : SC) (p0 : Nat) (x1 : Int32) (x2 : Int32) (c3 : Nat) (y0 : Int32) (h : AH) : Run sc n_X1_findBefore 34 [aD p0, aI x1, aI x2, aC c3] none [aI y0] h = Run sc n_X1_findBefore (if ¬ y0 = 0 then 55 else 37) [aD p0, aI x1, aI x2, aC c3] none [] h := by
  exact q_if mt_X1_findBefore dX1_findBefore_34 (fun _ _ _ _ => rfl) rfl
/-! BranchSlotFiller$Filler.findAtTarget(I)I -/
theorem e_X1_findAtTarget_0 (sc : SC) (p0 : Nat) (x1 : Int32) (v2 : AV) (h : AH) : Run sc n_X1_findAtTarget 0 [aD p0, aI x1, v2] none [] h = bF (getF sc h (aD p0) 4 0) (fun z => Run sc n_X1_findAtTarget 4 [aD p0, aI x1, v2] none [z] h) := by
  refine (s_go mt_X1_findAtTarget dX1_findAtTarget_0 rfl).trans ?_
  exact q_getfield mt_X1_findAtTarget dX1_findAtTarget_1 rfl
theorem e_X1_findAtTarget_20 (sc : SC) (p0 : Nat) (x1 : Int32) (x2 : Int32) (h : AH) : Run sc n_X1_findAtTarget 20 [aD p0, aI x1, aI x2] none [] h = bF (getF sc h (aD p0) 4 0) (fun z => Run sc n_X1_findAtTarget 24 [aD p0, aI x1, aI x2] none [z] h) := by
  refine (s_go mt_X1_findAtTarget dX1_findAtTarget_20 rfl).trans ?_
  exact q_getfield mt_X1_findAtTarget dX1_findAtTarget_21 rfl
theorem e_X1_findAtTarget_34 (sc : SC) (p0 : Nat) (x1 : Int32) (x2 : Int32) (h : AH) : Run sc n_X1_findAtTarget 34 [aD p0, aI x1, aI x2] none [] h = Run sc n_X1_findAtTarget 39 [aD p0, aI x1, aI x2] none [aI x2] h := by
  refine (s_go mt_X1_findAtTarget dX1_findAtTarget_34 rfl).trans ?_
  refine (s_go mt_X1_findAtTarget dX1_findAtTarget_35 rfl).trans ?_
  exact rfl
theorem e_X1_findAtTarget_38 (sc : SC) (p0 : Nat) (x1 : Int32) (x2 : Int32) (h : AH) : Run sc n_X1_findAtTarget 38 [aD p0, aI x1, aI x2] none [] h = Run sc n_X1_findAtTarget 39 [aD p0, aI x1, aI x2] none [aI (-1)] h := by
  refine (s_go mt_X1_findAtTarget dX1_findAtTarget_38 rfl).trans ?_
  exact rfl
theorem e_X1_findAtTarget_39 (sc : SC) (p0 : Nat) (x1 : Int32) (x2 : Int32) (y0 : Int32) (h : AH) : Run sc n_X1_findAtTarget 39 [aD p0, aI x1, aI x2] none [aI y0] h = some (.inl (some (aI y0)), h) := by
  exact q_ret (c := (some (aI y0), h)) mt_X1_findAtTarget dX1_findAtTarget_39 rfl
theorem e_X1_findAtTarget_4 (sc : SC) (p0 : Nat) (x1 : Int32) (v2 : AV) (q0 : Nat) (h : AH) : Run sc n_X1_findAtTarget 4 [aD p0, aI x1, v2] none [aD q0] h = bI (rOK sc h (aD q0) 8 = true) (bC (Call sc n_X6_target [aD q0, aI x1] h) (fun v z => Run sc n_X1_findAtTarget 8 [aD p0, aI x1, v2] none (v.toList ++ []) z) (fun E z => some (.inr E, z))) := by
  refine (s_go mt_X1_findAtTarget dX1_findAtTarget_4 rfl).trans ?_
  exact q_cV mt_X1_findAtTarget dX1_findAtTarget_5 rfl mt_X6_target rfl rfl rfl
theorem e_X1_findAtTarget_24 (sc : SC) (p0 : Nat) (x1 : Int32) (x2 : Int32) (q0 : Nat) (h : AH) : Run sc n_X1_findAtTarget 24 [aD p0, aI x1, aI x2] none [aD q0] h = bI (rOK sc h (aD q0) 8 = true) (bC (Call sc n_X6_kind [aD q0, aI x2] h) (fun v z => Run sc n_X1_findAtTarget 28 [aD p0, aI x1, aI x2] none (v.toList ++ []) z) (fun E z => some (.inr E, z))) := by
  refine (s_go mt_X1_findAtTarget dX1_findAtTarget_24 rfl).trans ?_
  exact q_cV mt_X1_findAtTarget dX1_findAtTarget_25 rfl mt_X6_kind rfl rfl rfl
theorem e_X1_findAtTarget_8 (sc : SC) (p0 : Nat) (x1 : Int32) (v2 : AV) (y0 : Int32) (h : AH) : Run sc n_X1_findAtTarget 8 [aD p0, aI x1, v2] none [aI y0] h = bF (getF sc h (aD p0) 4 0) (fun z => Run sc n_X1_findAtTarget 13 [aD p0, aI x1, aI y0] none [z] h) := by
  refine (s_go mt_X1_findAtTarget dX1_findAtTarget_8 rfl).trans ?_
  refine (s_go mt_X1_findAtTarget dX1_findAtTarget_9 rfl).trans ?_
  exact q_getfield mt_X1_findAtTarget dX1_findAtTarget_10 rfl
theorem e_X1_findAtTarget_28 (sc : SC) (p0 : Nat) (x1 : Int32) (x2 : Int32) (d0 : Nat) (h : AH) : Run sc n_X1_findAtTarget 28 [aD p0, aI x1, aI x2] none [aC d0] h = bI (rOK sc h (aC d0) 100 = true) (bC (Call sc n_X4_canFill [aC d0] h) (fun v z => Run sc n_X1_findAtTarget 31 [aD p0, aI x1, aI x2] none (v.toList ++ []) z) (fun E z => some (.inr E, z))) := by
  exact q_cV mt_X1_findAtTarget dX1_findAtTarget_28 rfl mt_X4_canFill rfl rfl rfl
theorem e_X1_findAtTarget_13 (sc : SC) (p0 : Nat) (x1 : Int32) (x2 : Int32) (q0 : Nat) (h : AH) : Run sc n_X1_findAtTarget 13 [aD p0, aI x1, aI x2] none [aD q0] h = bI (rOK sc h (aD q0) 8 = true) (bC (Call sc n_X6_has [aD q0, aI x2] h) (fun v z => Run sc n_X1_findAtTarget 17 [aD p0, aI x1, aI x2] none (v.toList ++ []) z) (fun E z => some (.inr E, z))) := by
  refine (s_go mt_X1_findAtTarget dX1_findAtTarget_13 rfl).trans ?_
  exact q_cV mt_X1_findAtTarget dX1_findAtTarget_14 rfl mt_X6_has rfl rfl rfl
theorem e_X1_findAtTarget_31 (sc : SC) (p0 : Nat) (x1 : Int32) (x2 : Int32) (y0 : Int32) (h : AH) : Run sc n_X1_findAtTarget 31 [aD p0, aI x1, aI x2] none [aI y0] h = Run sc n_X1_findAtTarget (if y0 = 0 then 38 else 34) [aD p0, aI x1, aI x2] none [] h := by
  exact q_if mt_X1_findAtTarget dX1_findAtTarget_31 (fun _ _ _ _ => rfl) rfl
theorem e_X1_findAtTarget_17 (sc : SC) (p0 : Nat) (x1 : Int32) (x2 : Int32) (y0 : Int32) (h : AH) : Run sc n_X1_findAtTarget 17 [aD p0, aI x1, aI x2] none [aI y0] h = Run sc n_X1_findAtTarget (if y0 = 0 then 38 else 20) [aD p0, aI x1, aI x2] none [] h := by
  exact q_if mt_X1_findAtTarget dX1_findAtTarget_17 (fun _ _ _ _ => rfl) rfl
/-! BranchSlotFiller$Filler.findInFallThrough(I)I -/
theorem e_X1_findInFallThrough_0 (sc : SC) (p0 : Nat) (x1 : Int32) (v2 : AV) (v3 : AV) (v4 : AV) (h : AH) : Run sc n_X1_findInFallThrough 0 [aD p0, aI x1, v2, v3, v4] none [] h = bF (getF sc h (aD p0) 4 0) (fun z => Run sc n_X1_findInFallThrough 8 [aD p0, aI x1, aI (x1 + (nI 2)), v3, v4] none [z] h) := by
  refine (s_go mt_X1_findInFallThrough dX1_findInFallThrough_0 rfl).trans ?_
  refine (s_go mt_X1_findInFallThrough dX1_findInFallThrough_1 rfl).trans ?_
  refine (s_go mt_X1_findInFallThrough dX1_findInFallThrough_2 rfl).trans ?_
  refine (s_go mt_X1_findInFallThrough dX1_findInFallThrough_3 rfl).trans ?_
  refine (s_go mt_X1_findInFallThrough dX1_findInFallThrough_4 rfl).trans ?_
  exact q_getfield mt_X1_findInFallThrough dX1_findInFallThrough_5 rfl
theorem e_X1_findInFallThrough_18 (sc : SC) (p0 : Nat) (x1 : Int32) (x2 : Int32) (v3 : AV) (v4 : AV) (h : AH) : Run sc n_X1_findInFallThrough 18 [aD p0, aI x1, aI x2, v3, v4] none [] h = bF (getF sc h (aD p0) 4 0) (fun z => Run sc n_X1_findInFallThrough 22 [aD p0, aI x1, aI x2, v3, v4] none [z] h) := by
  refine (s_go mt_X1_findInFallThrough dX1_findInFallThrough_18 rfl).trans ?_
  exact q_getfield mt_X1_findInFallThrough dX1_findInFallThrough_19 rfl
theorem e_X1_findInFallThrough_29 (sc : SC) (p0 : Nat) (x1 : Int32) (x2 : Int32) (v3 : AV) (v4 : AV) (h : AH) : Run sc n_X1_findInFallThrough 29 [aD p0, aI x1, aI x2, v3, v4] none [] h = some (.inl (some (aI (-1))), h) := by
  refine (s_go mt_X1_findInFallThrough dX1_findInFallThrough_29 rfl).trans ?_
  exact q_ret (c := (some (aI (-1)), h)) mt_X1_findInFallThrough dX1_findInFallThrough_30 rfl
theorem e_X1_findInFallThrough_31 (sc : SC) (p0 : Nat) (x1 : Int32) (x2 : Int32) (v3 : AV) (v4 : AV) (h : AH) : Run sc n_X1_findInFallThrough 31 [aD p0, aI x1, aI x2, v3, v4] none [] h = bF (getF sc h (aD p0) 4 0) (fun z => Run sc n_X1_findInFallThrough 35 [aD p0, aI x1, aI x2, v3, v4] none [z] h) := by
  refine (s_go mt_X1_findInFallThrough dX1_findInFallThrough_31 rfl).trans ?_
  exact q_getfield mt_X1_findInFallThrough dX1_findInFallThrough_32 rfl
theorem e_X1_findInFallThrough_47 (sc : SC) (p0 : Nat) (x1 : Int32) (x2 : Int32) (c3 : Nat) (v4 : AV) (h : AH) : Run sc n_X1_findInFallThrough 47 [aD p0, aI x1, aI x2, aC c3, v4] none [] h = bI (1 ≤ c3 ∧ c3 < 13 ∧ 1 ≤ 7 ∧ 7 < 13) (Run sc n_X1_findInFallThrough (if c3 = 7 then 72 else 54) [aD p0, aI x1, aI x2, aC c3, v4] none [] h) := by
  refine (s_go mt_X1_findInFallThrough dX1_findInFallThrough_47 rfl).trans ?_
  refine (s_go mt_X1_findInFallThrough dX1_findInFallThrough_48 rfl).trans ?_
  exact q_acmpeq mt_X1_findInFallThrough dX1_findInFallThrough_51 rfl
theorem e_X1_findInFallThrough_54 (sc : SC) (p0 : Nat) (x1 : Int32) (x2 : Int32) (c3 : Nat) (v4 : AV) (h : AH) : Run sc n_X1_findInFallThrough 54 [aD p0, aI x1, aI x2, aC c3, v4] none [] h = bI (1 ≤ c3 ∧ c3 < 13 ∧ 1 ≤ 8 ∧ 8 < 13) (Run sc n_X1_findInFallThrough (if c3 = 8 then 72 else 61) [aD p0, aI x1, aI x2, aC c3, v4] none [] h) := by
  refine (s_go mt_X1_findInFallThrough dX1_findInFallThrough_54 rfl).trans ?_
  refine (s_go mt_X1_findInFallThrough dX1_findInFallThrough_55 rfl).trans ?_
  exact q_acmpeq mt_X1_findInFallThrough dX1_findInFallThrough_58 rfl
theorem e_X1_findInFallThrough_61 (sc : SC) (p0 : Nat) (x1 : Int32) (x2 : Int32) (c3 : Nat) (v4 : AV) (h : AH) : Run sc n_X1_findInFallThrough 61 [aD p0, aI x1, aI x2, aC c3, v4] none [] h = bF (getF sc h (aD p0) 4 0) (fun z => Run sc n_X1_findInFallThrough 65 [aD p0, aI x1, aI x2, aC c3, v4] none [z] h) := by
  refine (s_go mt_X1_findInFallThrough dX1_findInFallThrough_61 rfl).trans ?_
  exact q_getfield mt_X1_findInFallThrough dX1_findInFallThrough_62 rfl
theorem e_X1_findInFallThrough_72 (sc : SC) (p0 : Nat) (x1 : Int32) (x2 : Int32) (c3 : Nat) (v4 : AV) (h : AH) : Run sc n_X1_findInFallThrough 72 [aD p0, aI x1, aI x2, aC c3, v4] none [] h = some (.inl (some (aI (-1))), h) := by
  refine (s_go mt_X1_findInFallThrough dX1_findInFallThrough_72 rfl).trans ?_
  exact q_ret (c := (some (aI (-1)), h)) mt_X1_findInFallThrough dX1_findInFallThrough_73 rfl
theorem e_X1_findInFallThrough_74 (sc : SC) (p0 : Nat) (x1 : Int32) (x2 : Int32) (c3 : Nat) (v4 : AV) (h : AH) : Run sc n_X1_findInFallThrough 74 [aD p0, aI x1, aI x2, aC c3, v4] none [] h = bF (getF sc h (aD p0) 4 1) (fun z => Run sc n_X1_findInFallThrough 78 [aD p0, aI x1, aI x2, aC c3, v4] none [z] h) := by
  refine (s_go mt_X1_findInFallThrough dX1_findInFallThrough_74 rfl).trans ?_
  exact q_getfield mt_X1_findInFallThrough dX1_findInFallThrough_75 rfl
theorem e_X1_findInFallThrough_105 (sc : SC) (p0 : Nat) (x1 : Int32) (x2 : Int32) (c3 : Nat) (x4 : Int32) (h : AH) : Run sc n_X1_findInFallThrough 105 [aD p0, aI x1, aI x2, aC c3, aI x4] none [] h = Run sc n_X1_findInFallThrough 110 [aD p0, aI x1, aI x2, aC c3, aI x4] none [aI x2] h := by
  refine (s_go mt_X1_findInFallThrough dX1_findInFallThrough_105 rfl).trans ?_
  refine (s_go mt_X1_findInFallThrough dX1_findInFallThrough_106 rfl).trans ?_
  exact rfl
theorem e_X1_findInFallThrough_109 (sc : SC) (p0 : Nat) (x1 : Int32) (x2 : Int32) (c3 : Nat) (x4 : Int32) (h : AH) : Run sc n_X1_findInFallThrough 109 [aD p0, aI x1, aI x2, aC c3, aI x4] none [] h = Run sc n_X1_findInFallThrough 110 [aD p0, aI x1, aI x2, aC c3, aI x4] none [aI (-1)] h := by
  refine (s_go mt_X1_findInFallThrough dX1_findInFallThrough_109 rfl).trans ?_
  exact rfl
theorem e_X1_findInFallThrough_110 (sc : SC) (p0 : Nat) (x1 : Int32) (x2 : Int32) (c3 : Nat) (x4 : Int32) (y0 : Int32) (h : AH) : Run sc n_X1_findInFallThrough 110 [aD p0, aI x1, aI x2, aC c3, aI x4] none [aI y0] h = some (.inl (some (aI y0)), h) := by
  exact q_ret (c := (some (aI y0), h)) mt_X1_findInFallThrough dX1_findInFallThrough_110 rfl
theorem e_X1_findInFallThrough_8 (sc : SC) (p0 : Nat) (x1 : Int32) (x2 : Int32) (v3 : AV) (v4 : AV) (q0 : Nat) (h : AH) : Run sc n_X1_findInFallThrough 8 [aD p0, aI x1, aI x2, v3, v4] none [aD q0] h = bI (rOK sc h (aD q0) 8 = true) (bC (Call sc n_X6_kind [aD q0, aI x1] h) (fun v z => Run sc n_X1_findInFallThrough 12 [aD p0, aI x1, aI x2, v3, v4] none (v.toList ++ []) z) (fun E z => some (.inr E, z))) := by
  refine (s_go mt_X1_findInFallThrough dX1_findInFallThrough_8 rfl).trans ?_
  exact q_cV mt_X1_findInFallThrough dX1_findInFallThrough_9 rfl mt_X6_kind rfl rfl rfl
theorem e_X1_findInFallThrough_22 (sc : SC) (p0 : Nat) (x1 : Int32) (x2 : Int32) (v3 : AV) (v4 : AV) (q0 : Nat) (h : AH) : Run sc n_X1_findInFallThrough 22 [aD p0, aI x1, aI x2, v3, v4] none [aD q0] h = bI (rOK sc h (aD q0) 8 = true) (bC (Call sc n_X6_has [aD q0, aI x2] h) (fun v z => Run sc n_X1_findInFallThrough 26 [aD p0, aI x1, aI x2, v3, v4] none (v.toList ++ []) z) (fun E z => some (.inr E, z))) := by
  refine (s_go mt_X1_findInFallThrough dX1_findInFallThrough_22 rfl).trans ?_
  exact q_cV mt_X1_findInFallThrough dX1_findInFallThrough_23 rfl mt_X6_has rfl rfl rfl
theorem e_X1_findInFallThrough_35 (sc : SC) (p0 : Nat) (x1 : Int32) (x2 : Int32) (v3 : AV) (v4 : AV) (q0 : Nat) (h : AH) : Run sc n_X1_findInFallThrough 35 [aD p0, aI x1, aI x2, v3, v4] none [aD q0] h = bI (rOK sc h (aD q0) 8 = true) (bC (Call sc n_X6_kind [aD q0, aI x2] h) (fun v z => Run sc n_X1_findInFallThrough 39 [aD p0, aI x1, aI x2, v3, v4] none (v.toList ++ []) z) (fun E z => some (.inr E, z))) := by
  refine (s_go mt_X1_findInFallThrough dX1_findInFallThrough_35 rfl).trans ?_
  exact q_cV mt_X1_findInFallThrough dX1_findInFallThrough_36 rfl mt_X6_kind rfl rfl rfl
theorem e_X1_findInFallThrough_65 (sc : SC) (p0 : Nat) (x1 : Int32) (x2 : Int32) (c3 : Nat) (v4 : AV) (q0 : Nat) (h : AH) : Run sc n_X1_findInFallThrough 65 [aD p0, aI x1, aI x2, aC c3, v4] none [aD q0] h = bI (rOK sc h (aD q0) 8 = true) (bC (Call sc n_X6_branchesTo [aD q0, aI x2] h) (fun v z => Run sc n_X1_findInFallThrough 69 [aD p0, aI x1, aI x2, aC c3, v4] none (v.toList ++ []) z) (fun E z => some (.inr E, z))) := by
  refine (s_go mt_X1_findInFallThrough dX1_findInFallThrough_65 rfl).trans ?_
  exact q_cV mt_X1_findInFallThrough dX1_findInFallThrough_66 rfl mt_X6_branchesTo rfl rfl rfl
theorem e_X1_findInFallThrough_78 (sc : SC) (p0 : Nat) (x1 : Int32) (x2 : Int32) (c3 : Nat) (v4 : AV) (q0 : Nat) (h : AH) : Run sc n_X1_findInFallThrough 78 [aD p0, aI x1, aI x2, aC c3, v4] none [aD q0] h = bF (getF sc h (aD p0) 4 0) (fun z => Run sc n_X1_findInFallThrough 82 [aD p0, aI x1, aI x2, aC c3, v4] none [z, aD q0] h) := by
  refine (s_go mt_X1_findInFallThrough dX1_findInFallThrough_78 rfl).trans ?_
  exact q_getfield mt_X1_findInFallThrough dX1_findInFallThrough_79 rfl
theorem e_X1_findInFallThrough_12 (sc : SC) (p0 : Nat) (x1 : Int32) (x2 : Int32) (v3 : AV) (v4 : AV) (d0 : Nat) (h : AH) : Run sc n_X1_findInFallThrough 12 [aD p0, aI x1, aI x2, v3, v4] none [aC d0] h = bF (getF sc h (aC d0) 100 7) (fun z => Run sc n_X1_findInFallThrough 15 [aD p0, aI x1, aI x2, v3, v4] none [z] h) := by
  exact q_getfield mt_X1_findInFallThrough dX1_findInFallThrough_12 rfl
theorem e_X1_findInFallThrough_26 (sc : SC) (p0 : Nat) (x1 : Int32) (x2 : Int32) (v3 : AV) (v4 : AV) (y0 : Int32) (h : AH) : Run sc n_X1_findInFallThrough 26 [aD p0, aI x1, aI x2, v3, v4] none [aI y0] h = Run sc n_X1_findInFallThrough (if ¬ y0 = 0 then 31 else 29) [aD p0, aI x1, aI x2, v3, v4] none [] h := by
  exact q_if mt_X1_findInFallThrough dX1_findInFallThrough_26 (fun _ _ _ _ => rfl) rfl
theorem e_X1_findInFallThrough_39 (sc : SC) (p0 : Nat) (x1 : Int32) (x2 : Int32) (v3 : AV) (v4 : AV) (d0 : Nat) (h : AH) : Run sc n_X1_findInFallThrough 39 [aD p0, aI x1, aI x2, v3, v4] none [aC d0] h = bI (rOK sc h (aC d0) 100 = true) (bC (Call sc n_X4_canFill [aC d0] h) (fun v z => Run sc n_X1_findInFallThrough 44 [aD p0, aI x1, aI x2, aC d0, v4] none (v.toList ++ []) z) (fun E z => some (.inr E, z))) := by
  refine (s_go mt_X1_findInFallThrough dX1_findInFallThrough_39 rfl).trans ?_
  refine (s_go mt_X1_findInFallThrough dX1_findInFallThrough_40 rfl).trans ?_
  exact q_cV mt_X1_findInFallThrough dX1_findInFallThrough_41 rfl mt_X4_canFill rfl rfl rfl
theorem e_X1_findInFallThrough_69 (sc : SC) (p0 : Nat) (x1 : Int32) (x2 : Int32) (c3 : Nat) (v4 : AV) (y0 : Int32) (h : AH) : Run sc n_X1_findInFallThrough 69 [aD p0, aI x1, aI x2, aC c3, v4] none [aI y0] h = Run sc n_X1_findInFallThrough (if y0 ≤ 0 then 74 else 72) [aD p0, aI x1, aI x2, aC c3, v4] none [] h := by
  exact q_if mt_X1_findInFallThrough dX1_findInFallThrough_69 (fun _ _ _ _ => rfl) rfl
theorem e_X1_findInFallThrough_82 (sc : SC) (p0 : Nat) (x1 : Int32) (x2 : Int32) (c3 : Nat) (v4 : AV) (q0 : Nat) (q1 : Nat) (h : AH) : Run sc n_X1_findInFallThrough 82 [aD p0, aI x1, aI x2, aC c3, v4] none [aD q1, aD q0] h = bI (rOK sc h (aD q1) 8 = true) (bC (Call sc n_X6_target [aD q1, aI x1] h) (fun v z => Run sc n_X1_findInFallThrough 86 [aD p0, aI x1, aI x2, aC c3, v4] none (v.toList ++ [aD q0]) z) (fun E z => some (.inr E, z))) := by
  refine (s_go mt_X1_findInFallThrough dX1_findInFallThrough_82 rfl).trans ?_
  exact q_cV mt_X1_findInFallThrough dX1_findInFallThrough_83 rfl mt_X6_target rfl rfl rfl
theorem e_X1_findInFallThrough_15 (sc : SC) (p0 : Nat) (x1 : Int32) (x2 : Int32) (v3 : AV) (v4 : AV) (y0 : Int32) (h : AH) : Run sc n_X1_findInFallThrough 15 [aD p0, aI x1, aI x2, v3, v4] none [aI y0] h = Run sc n_X1_findInFallThrough (if y0 = 0 then 29 else 18) [aD p0, aI x1, aI x2, v3, v4] none [] h := by
  exact q_if mt_X1_findInFallThrough dX1_findInFallThrough_15 (fun _ _ _ _ => rfl) rfl
theorem e_X1_findInFallThrough_44 (sc : SC) (p0 : Nat) (x1 : Int32) (x2 : Int32) (c3 : Nat) (v4 : AV) (y0 : Int32) (h : AH) : Run sc n_X1_findInFallThrough 44 [aD p0, aI x1, aI x2, aC c3, v4] none [aI y0] h = Run sc n_X1_findInFallThrough (if y0 = 0 then 72 else 47) [aD p0, aI x1, aI x2, aC c3, v4] none [] h := by
  exact q_if mt_X1_findInFallThrough dX1_findInFallThrough_44 (fun _ _ _ _ => rfl) rfl
theorem e_X1_findInFallThrough_86 (sc : SC) (p0 : Nat) (x1 : Int32) (x2 : Int32) (c3 : Nat) (v4 : AV) (q0 : Nat) (y1 : Int32) (h : AH) : Run sc n_X1_findInFallThrough 86 [aD p0, aI x1, aI x2, aC c3, v4] none [aI y1, aD q0] h = bI (rOK sc h (aD q0) 5 = true) (bC (Call sc n_X2_liveBefore [aD q0, aI y1] h) (fun v z => Run sc n_X1_findInFallThrough 89 [aD p0, aI x1, aI x2, aC c3, v4] none (v.toList ++ []) z) (fun E z => some (.inr E, z))) := by
  exact q_cV mt_X1_findInFallThrough dX1_findInFallThrough_86 rfl mt_X2_liveBefore rfl rfl rfl
theorem e_X1_findInFallThrough_89 (sc : SC) (p0 : Nat) (x1 : Int32) (x2 : Int32) (c3 : Nat) (v4 : AV) (y0 : Int32) (h : AH) : Run sc n_X1_findInFallThrough 89 [aD p0, aI x1, aI x2, aC c3, v4] none [aI y0] h = bF (getF sc h (aD p0) 4 0) (fun z => Run sc n_X1_findInFallThrough 95 [aD p0, aI x1, aI x2, aC c3, aI y0] none [z] h) := by
  refine (s_go mt_X1_findInFallThrough dX1_findInFallThrough_89 rfl).trans ?_
  refine (s_go mt_X1_findInFallThrough dX1_findInFallThrough_91 rfl).trans ?_
  exact q_getfield mt_X1_findInFallThrough dX1_findInFallThrough_92 rfl
theorem e_X1_findInFallThrough_95 (sc : SC) (p0 : Nat) (x1 : Int32) (x2 : Int32) (c3 : Nat) (x4 : Int32) (q0 : Nat) (h : AH) : Run sc n_X1_findInFallThrough 95 [aD p0, aI x1, aI x2, aC c3, aI x4] none [aD q0] h = bI (rOK sc h (aD q0) 8 = true) (bC (Call sc n_X6_writes [aD q0, aI x2] h) (fun v z => Run sc n_X1_findInFallThrough 99 [aD p0, aI x1, aI x2, aC c3, aI x4] none (v.toList ++ []) z) (fun E z => some (.inr E, z))) := by
  refine (s_go mt_X1_findInFallThrough dX1_findInFallThrough_95 rfl).trans ?_
  exact q_cV mt_X1_findInFallThrough dX1_findInFallThrough_96 rfl mt_X6_writes rfl rfl rfl
theorem e_X1_findInFallThrough_99 (sc : SC) (p0 : Nat) (x1 : Int32) (x2 : Int32) (c3 : Nat) (x4 : Int32) (y0 : Int32) (h : AH) : Run sc n_X1_findInFallThrough 99 [aD p0, aI x1, aI x2, aC c3, aI x4] none [aI y0] h = Run sc n_X1_findInFallThrough (if ¬ (y0 &&& x4) = 0 then 109 else 105) [aD p0, aI x1, aI x2, aC c3, aI x4] none [] h := by
  refine (s_go mt_X1_findInFallThrough dX1_findInFallThrough_99 rfl).trans ?_
  refine (s_go mt_X1_findInFallThrough dX1_findInFallThrough_101 rfl).trans ?_
  exact q_if mt_X1_findInFallThrough dX1_findInFallThrough_102 (fun _ _ _ _ => rfl) rfl
/-! BranchSlotFiller$Filler.find(II)I -/
theorem e_X1_find_0 (sc : SC) (p0 : Nat) (x1 : Int32) (x2 : Int32) (h : AH) : Run sc n_X1_find 0 [aD p0, aI x1, aI x2] none [] h = Run sc n_X1_find (if (x2).toInt < 0 ∨ 2 < (x2).toInt then 46 else ([28, 34, 40] : List Nat).getD ((x2).toInt - 0).toNat 0) [aD p0, aI x1, aI x2] none [] h := by
  refine (s_go mt_X1_find dX1_find_0 rfl).trans ?_
  exact q_table (pc := 1) (T := [28, 34, 40]) mt_X1_find dX1_find_1 rfl (by decide +kernel)
theorem e_X1_find_28 (sc : SC) (p0 : Nat) (x1 : Int32) (x2 : Int32) (h : AH) : Run sc n_X1_find 28 [aD p0, aI x1, aI x2] none [] h = bI (rOK sc h (aD p0) 4 = true) (bC (Call sc n_X1_findBefore [aD p0, aI x1] h) (fun v z => Run sc n_X1_find 33 [aD p0, aI x1, aI x2] none (v.toList ++ []) z) (fun E z => some (.inr E, z))) := by
  refine (s_go mt_X1_find dX1_find_28 rfl).trans ?_
  refine (s_go mt_X1_find dX1_find_29 rfl).trans ?_
  exact q_cV mt_X1_find dX1_find_30 rfl mt_X1_findBefore rfl rfl rfl
theorem e_X1_find_34 (sc : SC) (p0 : Nat) (x1 : Int32) (x2 : Int32) (h : AH) : Run sc n_X1_find 34 [aD p0, aI x1, aI x2] none [] h = bI (rOK sc h (aD p0) 4 = true) (bC (Call sc n_X1_findAtTarget [aD p0, aI x1] h) (fun v z => Run sc n_X1_find 39 [aD p0, aI x1, aI x2] none (v.toList ++ []) z) (fun E z => some (.inr E, z))) := by
  refine (s_go mt_X1_find dX1_find_34 rfl).trans ?_
  refine (s_go mt_X1_find dX1_find_35 rfl).trans ?_
  exact q_cV mt_X1_find dX1_find_36 rfl mt_X1_findAtTarget rfl rfl rfl
theorem e_X1_find_40 (sc : SC) (p0 : Nat) (x1 : Int32) (x2 : Int32) (h : AH) : Run sc n_X1_find 40 [aD p0, aI x1, aI x2] none [] h = bI (rOK sc h (aD p0) 4 = true) (bC (Call sc n_X1_findInFallThrough [aD p0, aI x1] h) (fun v z => Run sc n_X1_find 45 [aD p0, aI x1, aI x2] none (v.toList ++ []) z) (fun E z => some (.inr E, z))) := by
  refine (s_go mt_X1_find dX1_find_40 rfl).trans ?_
  refine (s_go mt_X1_find dX1_find_41 rfl).trans ?_
  exact q_cV mt_X1_find dX1_find_42 rfl mt_X1_findInFallThrough rfl rfl rfl
theorem e_X1_find_46 (sc : SC) (p0 : Nat) (x1 : Int32) (x2 : Int32) (h : AH) : Run sc n_X1_find 46 [aD p0, aI x1, aI x2] none [] h = some (.inl (some (aI (-1))), h) := by
  refine (s_go mt_X1_find dX1_find_46 rfl).trans ?_
  exact q_ret (c := (some (aI (-1)), h)) mt_X1_find dX1_find_47 rfl
theorem e_X1_find_33 (sc : SC) (p0 : Nat) (x1 : Int32) (x2 : Int32) (y0 : Int32) (h : AH) : Run sc n_X1_find 33 [aD p0, aI x1, aI x2] none [aI y0] h = some (.inl (some (aI y0)), h) := by
  exact q_ret (c := (some (aI y0), h)) mt_X1_find dX1_find_33 rfl
theorem e_X1_find_39 (sc : SC) (p0 : Nat) (x1 : Int32) (x2 : Int32) (y0 : Int32) (h : AH) : Run sc n_X1_find 39 [aD p0, aI x1, aI x2] none [aI y0] h = some (.inl (some (aI y0)), h) := by
  exact q_ret (c := (some (aI y0), h)) mt_X1_find dX1_find_39 rfl
theorem e_X1_find_45 (sc : SC) (p0 : Nat) (x1 : Int32) (x2 : Int32) (y0 : Int32) (h : AH) : Run sc n_X1_find 45 [aD p0, aI x1, aI x2] none [aI y0] h = some (.inl (some (aI y0)), h) := by
  exact q_ret (c := (some (aI y0), h)) mt_X1_find dX1_find_45 rfl
/-! BranchSlotFiller$Filler.move(III)I -/
theorem e_X1_move_0 (sc : SC) (p0 : Nat) (x1 : Int32) (x2 : Int32) (x3 : Int32) (h : AH) : Run sc n_X1_move 0 [aD p0, aI x1, aI x2, aI x3] none [] h = bF (getF sc h (aD p0) 4 0) (fun z => Run sc n_X1_move 4 [aD p0, aI x1, aI x2, aI x3] none [z] h) := by
  refine (s_go mt_X1_move dX1_move_0 rfl).trans ?_
  exact q_getfield mt_X1_move dX1_move_1 rfl
theorem e_X1_move_16 (sc : SC) (p0 : Nat) (x1 : Int32) (x2 : Int32) (x3 : Int32) (h : AH) : Run sc n_X1_move 16 [aD p0, aI x1, aI x2, aI x3] none [] h = bF (getF sc h (aD p0) 4 0) (fun z => Run sc n_X1_move 20 [aD p0, aI x1, aI x2, aI x3] none [z] h) := by
  refine (s_go mt_X1_move dX1_move_16 rfl).trans ?_
  exact q_getfield mt_X1_move dX1_move_17 rfl
theorem e_X1_move_48 (sc : SC) (p0 : Nat) (x1 : Int32) (x2 : Int32) (x3 : Int32) (q0 : Nat) (y1 : Int32) (y2 : Int32) (h : AH) : Run sc n_X1_move 48 [aD p0, aI x1, aI x2, aI x3] none [aI y2, aI y1, aD q0] h = Run sc n_X1_move 53 [aD p0, aI x1, aI x2, aI x3] none [aI (nI 1), aI y2, aI y1, aD q0] h := by
  refine (s_go mt_X1_move dX1_move_48 rfl).trans ?_
  refine (s_go mt_X1_move dX1_move_49 rfl).trans ?_
  exact rfl
theorem e_X1_move_52 (sc : SC) (p0 : Nat) (x1 : Int32) (x2 : Int32) (x3 : Int32) (q0 : Nat) (y1 : Int32) (y2 : Int32) (h : AH) : Run sc n_X1_move 52 [aD p0, aI x1, aI x2, aI x3] none [aI y2, aI y1, aD q0] h = Run sc n_X1_move 53 [aD p0, aI x1, aI x2, aI x3] none [aI (nI 0), aI y2, aI y1, aD q0] h := by
  refine (s_go mt_X1_move dX1_move_52 rfl).trans ?_
  exact rfl
theorem e_X1_move_53 (sc : SC) (p0 : Nat) (x1 : Int32) (x2 : Int32) (x3 : Int32) (q0 : Nat) (y1 : Int32) (y2 : Int32) (y3 : Int32) (h : AH) : Run sc n_X1_move 53 [aD p0, aI x1, aI x2, aI x3] none [aI y3, aI y2, aI y1, aD q0] h = bI (rOK sc h (aD q0) 8 = true) (bC (Call sc n_X6_put [aD q0, aI y1, aI y2, aI y3] h) (fun v z => Run sc n_X1_move 56 [aD p0, aI x1, aI x2, aI x3] none (v.toList ++ []) z) (fun E z => some (.inr E, z))) := by
  exact q_cV mt_X1_move dX1_move_53 rfl mt_X6_put rfl rfl rfl
theorem e_X1_move_58 (sc : SC) (p0 : Nat) (x1 : Int32) (x2 : Int32) (x3 : Int32) (h : AH) : Run sc n_X1_move 58 [aD p0, aI x1, aI x2, aI x3] none [] h = bF (getF sc h (aD p0) 4 0) (fun z => Run sc n_X1_move 62 [aD p0, aI x1, aI x2, aI x3] none [z] h) := by
  refine (s_go mt_X1_move dX1_move_58 rfl).trans ?_
  exact q_getfield mt_X1_move dX1_move_59 rfl
theorem e_X1_move_80 (sc : SC) (p0 : Nat) (x1 : Int32) (x2 : Int32) (x3 : Int32) (h : AH) : Run sc n_X1_move 80 [aD p0, aI x1, aI x2, aI x3] none [] h = Run sc n_X1_move 87 [aD p0, aI x1, aI x2, aI x3] none [aI (x2 - (nI 1))] h := by
  refine (s_go mt_X1_move dX1_move_80 rfl).trans ?_
  refine (s_go mt_X1_move dX1_move_81 rfl).trans ?_
  refine (s_go mt_X1_move dX1_move_82 rfl).trans ?_
  refine (s_go mt_X1_move dX1_move_83 rfl).trans ?_
  exact rfl
theorem e_X1_move_86 (sc : SC) (p0 : Nat) (x1 : Int32) (x2 : Int32) (x3 : Int32) (h : AH) : Run sc n_X1_move 86 [aD p0, aI x1, aI x2, aI x3] none [] h = Run sc n_X1_move 87 [aD p0, aI x1, aI x2, aI x3] none [aI x2] h := by
  refine (s_go mt_X1_move dX1_move_86 rfl).trans ?_
  exact rfl
theorem e_X1_move_87 (sc : SC) (p0 : Nat) (x1 : Int32) (x2 : Int32) (x3 : Int32) (y0 : Int32) (h : AH) : Run sc n_X1_move 87 [aD p0, aI x1, aI x2, aI x3] none [aI y0] h = some (.inl (some (aI y0)), h) := by
  exact q_ret (c := (some (aI y0), h)) mt_X1_move dX1_move_87 rfl
theorem e_X1_move_4 (sc : SC) (p0 : Nat) (x1 : Int32) (x2 : Int32) (x3 : Int32) (q0 : Nat) (h : AH) : Run sc n_X1_move 4 [aD p0, aI x1, aI x2, aI x3] none [aD q0] h = bI (rOK sc h (aD q0) 8 = true) (bC (Call sc n_X6_copyInstruction [aD q0, aI x1, aI (x2 + (nI 1))] h) (fun v z => Run sc n_X1_move 11 [aD p0, aI x1, aI x2, aI x3] none (v.toList ++ []) z) (fun E z => some (.inr E, z))) := by
  refine (s_go mt_X1_move dX1_move_4 rfl).trans ?_
  refine (s_go mt_X1_move dX1_move_5 rfl).trans ?_
  refine (s_go mt_X1_move dX1_move_6 rfl).trans ?_
  refine (s_go mt_X1_move dX1_move_7 rfl).trans ?_
  exact q_cV mt_X1_move dX1_move_8 rfl mt_X6_copyInstruction rfl rfl rfl
theorem e_X1_move_20 (sc : SC) (p0 : Nat) (x1 : Int32) (x2 : Int32) (x3 : Int32) (q0 : Nat) (h : AH) : Run sc n_X1_move 20 [aD p0, aI x1, aI x2, aI x3] none [aD q0] h = bI (rOK sc h (aD q0) 8 = true) (bC (Call sc n_X6_put [aD q0, aI x2, aI (nI 3), aI (x1 + (nI 1))] h) (fun v z => Run sc n_X1_move 28 [aD p0, aI x1, aI x2, aI x3] none (v.toList ++ []) z) (fun E z => some (.inr E, z))) := by
  refine (s_go mt_X1_move dX1_move_20 rfl).trans ?_
  refine (s_go mt_X1_move dX1_move_21 rfl).trans ?_
  refine (s_go mt_X1_move dX1_move_22 rfl).trans ?_
  refine (s_go mt_X1_move dX1_move_23 rfl).trans ?_
  refine (s_go mt_X1_move dX1_move_24 rfl).trans ?_
  exact q_cV mt_X1_move dX1_move_25 rfl mt_X6_put rfl rfl rfl
theorem e_X1_move_56 (sc : SC) (p0 : Nat) (x1 : Int32) (x2 : Int32) (x3 : Int32) (h : AH) : Run sc n_X1_move 56 [aD p0, aI x1, aI x2, aI x3] none [] h = some (.inl (some (aI x2)), h) := by
  refine (s_go mt_X1_move dX1_move_56 rfl).trans ?_
  exact q_ret (c := (some (aI x2), h)) mt_X1_move dX1_move_57 rfl
theorem e_X1_move_62 (sc : SC) (p0 : Nat) (x1 : Int32) (x2 : Int32) (x3 : Int32) (q0 : Nat) (h : AH) : Run sc n_X1_move 62 [aD p0, aI x1, aI x2, aI x3] none [aD q0] h = bI (rOK sc h (aD q0) 8 = true) (bC (Call sc n_X6_put [aD q0, aI x2, aI (nI 4), aI (nI 0)] h) (fun v z => Run sc n_X1_move 68 [aD p0, aI x1, aI x2, aI x3] none (v.toList ++ []) z) (fun E z => some (.inr E, z))) := by
  refine (s_go mt_X1_move dX1_move_62 rfl).trans ?_
  refine (s_go mt_X1_move dX1_move_63 rfl).trans ?_
  refine (s_go mt_X1_move dX1_move_64 rfl).trans ?_
  exact q_cV mt_X1_move dX1_move_65 rfl mt_X6_put rfl rfl rfl
theorem e_X1_move_11 (sc : SC) (p0 : Nat) (x1 : Int32) (x2 : Int32) (x3 : Int32) (h : AH) : Run sc n_X1_move 11 [aD p0, aI x1, aI x2, aI x3] none [] h = Run sc n_X1_move (if ¬ x3 = (nI 1) then 58 else 16) [aD p0, aI x1, aI x2, aI x3] none [] h := by
  refine (s_go mt_X1_move dX1_move_11 rfl).trans ?_
  refine (s_go mt_X1_move dX1_move_12 rfl).trans ?_
  exact q_icmp mt_X1_move dX1_move_13 (fun _ _ _ _ => rfl) rfl
theorem e_X1_move_28 (sc : SC) (p0 : Nat) (x1 : Int32) (x2 : Int32) (x3 : Int32) (h : AH) : Run sc n_X1_move 28 [aD p0, aI x1, aI x2, aI x3] none [] h = bF (getF sc h (aD p0) 4 0) (fun z => Run sc n_X1_move 32 [aD p0, aI x1, aI x2, aI x3] none [z] h) := by
  refine (s_go mt_X1_move dX1_move_28 rfl).trans ?_
  exact q_getfield mt_X1_move dX1_move_29 rfl
theorem e_X1_move_68 (sc : SC) (p0 : Nat) (x1 : Int32) (x2 : Int32) (x3 : Int32) (h : AH) : Run sc n_X1_move 68 [aD p0, aI x1, aI x2, aI x3] none [] h = bF (getF sc h (aD p0) 4 0) (fun z => Run sc n_X1_move 72 [aD p0, aI x1, aI x2, aI x3] none [z] h) := by
  refine (s_go mt_X1_move dX1_move_68 rfl).trans ?_
  exact q_getfield mt_X1_move dX1_move_69 rfl
theorem e_X1_move_32 (sc : SC) (p0 : Nat) (x1 : Int32) (x2 : Int32) (x3 : Int32) (q0 : Nat) (h : AH) : Run sc n_X1_move 32 [aD p0, aI x1, aI x2, aI x3] none [aD q0] h = bF (getF sc h (aD p0) 4 0) (fun z => Run sc n_X1_move 38 [aD p0, aI x1, aI x2, aI x3] none [z, aI (nI 4), aI x2, aD q0] h) := by
  refine (s_go mt_X1_move dX1_move_32 rfl).trans ?_
  refine (s_go mt_X1_move dX1_move_33 rfl).trans ?_
  refine (s_go mt_X1_move dX1_move_34 rfl).trans ?_
  exact q_getfield mt_X1_move dX1_move_35 rfl
theorem e_X1_move_72 (sc : SC) (p0 : Nat) (x1 : Int32) (x2 : Int32) (x3 : Int32) (q0 : Nat) (h : AH) : Run sc n_X1_move 72 [aD p0, aI x1, aI x2, aI x3] none [aD q0] h = bI (rOK sc h (aD q0) 8 = true) (bC (Call sc n_X6_remove [aD q0, aI x1] h) (fun v z => Run sc n_X1_move 76 [aD p0, aI x1, aI x2, aI x3] none (v.toList ++ []) z) (fun E z => some (.inr E, z))) := by
  refine (s_go mt_X1_move dX1_move_72 rfl).trans ?_
  exact q_cV mt_X1_move dX1_move_73 rfl mt_X6_remove rfl rfl rfl
theorem e_X1_move_38 (sc : SC) (p0 : Nat) (x1 : Int32) (x2 : Int32) (x3 : Int32) (q0 : Nat) (y1 : Int32) (y2 : Int32) (q3 : Nat) (h : AH) : Run sc n_X1_move 38 [aD p0, aI x1, aI x2, aI x3] none [aD q3, aI y2, aI y1, aD q0] h = bI (rOK sc h (aD q3) 8 = true) (bC (Call sc n_X6_kind [aD q3, aI x2] h) (fun v z => Run sc n_X1_move 42 [aD p0, aI x1, aI x2, aI x3] none (v.toList ++ [aI y2, aI y1, aD q0]) z) (fun E z => some (.inr E, z))) := by
  refine (s_go mt_X1_move dX1_move_38 rfl).trans ?_
  exact q_cV mt_X1_move dX1_move_39 rfl mt_X6_kind rfl rfl rfl
theorem e_X1_move_76 (sc : SC) (p0 : Nat) (x1 : Int32) (x2 : Int32) (x3 : Int32) (h : AH) : Run sc n_X1_move 76 [aD p0, aI x1, aI x2, aI x3] none [] h = Run sc n_X1_move (if ¬ x3 = 0 then 86 else 80) [aD p0, aI x1, aI x2, aI x3] none [] h := by
  refine (s_go mt_X1_move dX1_move_76 rfl).trans ?_
  exact q_if mt_X1_move dX1_move_77 (fun _ _ _ _ => rfl) rfl
theorem e_X1_move_42 (sc : SC) (p0 : Nat) (x1 : Int32) (x2 : Int32) (x3 : Int32) (q0 : Nat) (y1 : Int32) (y2 : Int32) (d3 : Nat) (h : AH) : Run sc n_X1_move 42 [aD p0, aI x1, aI x2, aI x3] none [aC d3, aI y2, aI y1, aD q0] h = bF (getF sc h (aC d3) 100 7) (fun z => Run sc n_X1_move 45 [aD p0, aI x1, aI x2, aI x3] none [z, aI y2, aI y1, aD q0] h) := by
  exact q_getfield mt_X1_move dX1_move_42 rfl
theorem e_X1_move_45 (sc : SC) (p0 : Nat) (x1 : Int32) (x2 : Int32) (x3 : Int32) (q0 : Nat) (y1 : Int32) (y2 : Int32) (y3 : Int32) (h : AH) : Run sc n_X1_move 45 [aD p0, aI x1, aI x2, aI x3] none [aI y3, aI y2, aI y1, aD q0] h = Run sc n_X1_move (if y3 = 0 then 52 else 48) [aD p0, aI x1, aI x2, aI x3] none [aI y2, aI y1, aD q0] h := by
  exact q_if mt_X1_move dX1_move_45 (fun _ _ _ _ => rfl) rfl
/-! BranchSlotFiller$Filler.fillEach(II)I -/
theorem e_X1_fillEach_0 (sc : SC) (p0 : Nat) (x1 : Int32) (x2 : Int32) (v3 : AV) (v4 : AV) (v5 : AV) (v6 : AV) (v7 : AV) (v8 : AV) (v9 : AV) (h : AH) : Run sc n_X1_fillEach 0 [aD p0, aI x1, aI x2, v3, v4, v5, v6, v7, v8, v9] none [] h = Run sc n_X1_fillEach 15 [aD p0, aI x1, aI x2, aI (((nI 3) - x1) - x2), aI (nI 0), aI (nI 0), aI (nI 0), v7, v8, v9] none [] h := by
  refine (s_go mt_X1_fillEach dX1_fillEach_0 rfl).trans ?_
  refine (s_go mt_X1_fillEach dX1_fillEach_1 rfl).trans ?_
  refine (s_go mt_X1_fillEach dX1_fillEach_2 rfl).trans ?_
  refine (s_go mt_X1_fillEach dX1_fillEach_3 rfl).trans ?_
  refine (s_go mt_X1_fillEach dX1_fillEach_4 rfl).trans ?_
  refine (s_go mt_X1_fillEach dX1_fillEach_5 rfl).trans ?_
  refine (s_go mt_X1_fillEach dX1_fillEach_6 rfl).trans ?_
  refine (s_go mt_X1_fillEach dX1_fillEach_7 rfl).trans ?_
  refine (s_go mt_X1_fillEach dX1_fillEach_9 rfl).trans ?_
  refine (s_go mt_X1_fillEach dX1_fillEach_10 rfl).trans ?_
  refine (s_go mt_X1_fillEach dX1_fillEach_12 rfl).trans ?_
  refine (s_go mt_X1_fillEach dX1_fillEach_13 rfl).trans ?_
  exact rfl
theorem e_X1_fillEach_15 (sc : SC) (p0 : Nat) (x1 : Int32) (x2 : Int32) (x3 : Int32) (x4 : Int32) (x5 : Int32) (x6 : Int32) (v7 : AV) (v8 : AV) (v9 : AV) (h : AH) : Run sc n_X1_fillEach 15 [aD p0, aI x1, aI x2, aI x3, aI x4, aI x5, aI x6, v7, v8, v9] none [] h = Run sc n_X1_fillEach (if (nI 60) ≤ x6 then 142 else 22) [aD p0, aI x1, aI x2, aI x3, aI x4, aI x5, aI x6, v7, v8, v9] none [] h := by
  refine (s_go mt_X1_fillEach dX1_fillEach_15 rfl).trans ?_
  refine (s_go mt_X1_fillEach dX1_fillEach_17 rfl).trans ?_
  exact q_icmp mt_X1_fillEach dX1_fillEach_19 (fun _ _ _ _ => rfl) rfl
theorem e_X1_fillEach_22 (sc : SC) (p0 : Nat) (x1 : Int32) (x2 : Int32) (x3 : Int32) (x4 : Int32) (x5 : Int32) (x6 : Int32) (v7 : AV) (v8 : AV) (v9 : AV) (h : AH) : Run sc n_X1_fillEach 22 [aD p0, aI x1, aI x2, aI x3, aI x4, aI x5, aI x6, v7, v8, v9] none [] h = bF (getF sc h (aD p0) 4 0) (fun z => Run sc n_X1_fillEach 28 [aD p0, aI x1, aI x2, aI x3, aI x4, aI x5, aI x6, v7, v8, v9] none [z, aI x5] h) := by
  refine (s_go mt_X1_fillEach dX1_fillEach_22 rfl).trans ?_
  refine (s_go mt_X1_fillEach dX1_fillEach_24 rfl).trans ?_
  exact q_getfield mt_X1_fillEach dX1_fillEach_25 rfl
theorem e_X1_fillEach_34 (sc : SC) (p0 : Nat) (x1 : Int32) (x2 : Int32) (x3 : Int32) (x4 : Int32) (x5 : Int32) (x6 : Int32) (v7 : AV) (v8 : AV) (v9 : AV) (h : AH) : Run sc n_X1_fillEach 34 [aD p0, aI x1, aI x2, aI x3, aI x4, aI x5, aI x6, v7, v8, v9] none [] h = Run sc n_X1_fillEach 37 [aD p0, aI x1, aI x2, aI x3, aI x4, aI x5, aI x6, aI (nI 0), v8, v9] none [] h := by
  refine (s_go mt_X1_fillEach dX1_fillEach_34 rfl).trans ?_
  refine (s_go mt_X1_fillEach dX1_fillEach_35 rfl).trans ?_
  exact rfl
theorem e_X1_fillEach_37 (sc : SC) (p0 : Nat) (x1 : Int32) (x2 : Int32) (x3 : Int32) (x4 : Int32) (x5 : Int32) (x6 : Int32) (x7 : Int32) (v8 : AV) (v9 : AV) (h : AH) : Run sc n_X1_fillEach 37 [aD p0, aI x1, aI x2, aI x3, aI x4, aI x5, aI x6, aI x7, v8, v9] none [] h = Run sc n_X1_fillEach (if (nI 3) ≤ x7 then 114 else 43) [aD p0, aI x1, aI x2, aI x3, aI x4, aI x5, aI x6, aI x7, v8, v9] none [] h := by
  refine (s_go mt_X1_fillEach dX1_fillEach_37 rfl).trans ?_
  refine (s_go mt_X1_fillEach dX1_fillEach_39 rfl).trans ?_
  exact q_icmp mt_X1_fillEach dX1_fillEach_40 (fun _ _ _ _ => rfl) rfl
theorem e_X1_fillEach_43 (sc : SC) (p0 : Nat) (x1 : Int32) (x2 : Int32) (x3 : Int32) (x4 : Int32) (x5 : Int32) (x6 : Int32) (x7 : Int32) (v8 : AV) (v9 : AV) (h : AH) : Run sc n_X1_fillEach 43 [aD p0, aI x1, aI x2, aI x3, aI x4, aI x5, aI x6, aI x7, v8, v9] none [] h = bF (getF sc h (aD p0) 4 0) (fun z => Run sc n_X1_fillEach 47 [aD p0, aI x1, aI x2, aI x3, aI x4, aI x5, aI x6, aI x7, v8, v9] none [z] h) := by
  refine (s_go mt_X1_fillEach dX1_fillEach_43 rfl).trans ?_
  exact q_getfield mt_X1_fillEach dX1_fillEach_44 rfl
theorem e_X1_fillEach_55 (sc : SC) (p0 : Nat) (x1 : Int32) (x2 : Int32) (x3 : Int32) (x4 : Int32) (x5 : Int32) (x6 : Int32) (x7 : Int32) (v8 : AV) (v9 : AV) (h : AH) : Run sc n_X1_fillEach 55 [aD p0, aI x1, aI x2, aI x3, aI x4, aI x5, aI x6, aI x7, v8, v9] none [] h = Run sc n_X1_fillEach (if ¬ x7 = 0 then 64 else 60) [aD p0, aI x1, aI x2, aI x3, aI x4, aI x5, aI x6, aI x7, v8, v9] none [] h := by
  refine (s_go mt_X1_fillEach dX1_fillEach_55 rfl).trans ?_
  exact q_if mt_X1_fillEach dX1_fillEach_57 (fun _ _ _ _ => rfl) rfl
theorem e_X1_fillEach_60 (sc : SC) (p0 : Nat) (x1 : Int32) (x2 : Int32) (x3 : Int32) (x4 : Int32) (x5 : Int32) (x6 : Int32) (x7 : Int32) (v8 : AV) (v9 : AV) (h : AH) : Run sc n_X1_fillEach 60 [aD p0, aI x1, aI x2, aI x3, aI x4, aI x5, aI x6, aI x7, v8, v9] none [] h = Run sc n_X1_fillEach 75 [aD p0, aI x1, aI x2, aI x3, aI x4, aI x5, aI x6, aI x7, v8, v9] none [aI x1] h := by
  refine (s_go mt_X1_fillEach dX1_fillEach_60 rfl).trans ?_
  refine (s_go mt_X1_fillEach dX1_fillEach_61 rfl).trans ?_
  exact rfl
theorem e_X1_fillEach_64 (sc : SC) (p0 : Nat) (x1 : Int32) (x2 : Int32) (x3 : Int32) (x4 : Int32) (x5 : Int32) (x6 : Int32) (x7 : Int32) (v8 : AV) (v9 : AV) (h : AH) : Run sc n_X1_fillEach 64 [aD p0, aI x1, aI x2, aI x3, aI x4, aI x5, aI x6, aI x7, v8, v9] none [] h = Run sc n_X1_fillEach (if ¬ x7 = (nI 1) then 74 else 70) [aD p0, aI x1, aI x2, aI x3, aI x4, aI x5, aI x6, aI x7, v8, v9] none [] h := by
  refine (s_go mt_X1_fillEach dX1_fillEach_64 rfl).trans ?_
  refine (s_go mt_X1_fillEach dX1_fillEach_66 rfl).trans ?_
  exact q_icmp mt_X1_fillEach dX1_fillEach_67 (fun _ _ _ _ => rfl) rfl
theorem e_X1_fillEach_70 (sc : SC) (p0 : Nat) (x1 : Int32) (x2 : Int32) (x3 : Int32) (x4 : Int32) (x5 : Int32) (x6 : Int32) (x7 : Int32) (v8 : AV) (v9 : AV) (h : AH) : Run sc n_X1_fillEach 70 [aD p0, aI x1, aI x2, aI x3, aI x4, aI x5, aI x6, aI x7, v8, v9] none [] h = Run sc n_X1_fillEach 75 [aD p0, aI x1, aI x2, aI x3, aI x4, aI x5, aI x6, aI x7, v8, v9] none [aI x2] h := by
  refine (s_go mt_X1_fillEach dX1_fillEach_70 rfl).trans ?_
  refine (s_go mt_X1_fillEach dX1_fillEach_71 rfl).trans ?_
  exact rfl
theorem e_X1_fillEach_74 (sc : SC) (p0 : Nat) (x1 : Int32) (x2 : Int32) (x3 : Int32) (x4 : Int32) (x5 : Int32) (x6 : Int32) (x7 : Int32) (v8 : AV) (v9 : AV) (h : AH) : Run sc n_X1_fillEach 74 [aD p0, aI x1, aI x2, aI x3, aI x4, aI x5, aI x6, aI x7, v8, v9] none [] h = Run sc n_X1_fillEach 75 [aD p0, aI x1, aI x2, aI x3, aI x4, aI x5, aI x6, aI x7, v8, v9] none [aI x3] h := by
  refine (s_go mt_X1_fillEach dX1_fillEach_74 rfl).trans ?_
  exact rfl
theorem e_X1_fillEach_75 (sc : SC) (p0 : Nat) (x1 : Int32) (x2 : Int32) (x3 : Int32) (x4 : Int32) (x5 : Int32) (x6 : Int32) (x7 : Int32) (v8 : AV) (v9 : AV) (y0 : Int32) (h : AH) : Run sc n_X1_fillEach 75 [aD p0, aI x1, aI x2, aI x3, aI x4, aI x5, aI x6, aI x7, v8, v9] none [aI y0] h = bI (rOK sc h (aD p0) 4 = true) (bC (Call sc n_X1_find [aD p0, aI x5, aI y0] h) (fun v z => Run sc n_X1_fillEach 85 [aD p0, aI x1, aI x2, aI x3, aI x4, aI x5, aI x6, aI x7, aI y0, v9] none (v.toList ++ []) z) (fun E z => some (.inr E, z))) := by
  refine (s_go mt_X1_fillEach dX1_fillEach_75 rfl).trans ?_
  refine (s_go mt_X1_fillEach dX1_fillEach_77 rfl).trans ?_
  refine (s_go mt_X1_fillEach dX1_fillEach_78 rfl).trans ?_
  refine (s_go mt_X1_fillEach dX1_fillEach_80 rfl).trans ?_
  exact q_cV mt_X1_fillEach dX1_fillEach_82 rfl mt_X1_find rfl rfl rfl
theorem e_X1_fillEach_93 (sc : SC) (p0 : Nat) (x1 : Int32) (x2 : Int32) (x3 : Int32) (x4 : Int32) (x5 : Int32) (x6 : Int32) (x7 : Int32) (x8 : Int32) (x9 : Int32) (h : AH) : Run sc n_X1_fillEach 93 [aD p0, aI x1, aI x2, aI x3, aI x4, aI x5, aI x6, aI x7, aI x8, aI x9] none [] h = bI (rOK sc h (aD p0) 4 = true) (bC (Call sc n_X1_move [aD p0, aI x9, aI x5, aI x8] h) (fun v z => Run sc n_X1_fillEach 103 [aD p0, aI x1, aI x2, aI x3, aI x4, aI x5, aI x6, aI x7, aI x8, aI x9] none (v.toList ++ []) z) (fun E z => some (.inr E, z))) := by
  refine (s_go mt_X1_fillEach dX1_fillEach_93 rfl).trans ?_
  refine (s_go mt_X1_fillEach dX1_fillEach_94 rfl).trans ?_
  refine (s_go mt_X1_fillEach dX1_fillEach_96 rfl).trans ?_
  refine (s_go mt_X1_fillEach dX1_fillEach_98 rfl).trans ?_
  exact q_cV mt_X1_fillEach dX1_fillEach_100 rfl mt_X1_move rfl rfl rfl
theorem e_X1_fillEach_108 (sc : SC) (p0 : Nat) (x1 : Int32) (x2 : Int32) (x3 : Int32) (x4 : Int32) (x5 : Int32) (x6 : Int32) (x7 : Int32) (x8 : Int32) (x9 : Int32) (h : AH) : Run sc n_X1_fillEach 108 [aD p0, aI x1, aI x2, aI x3, aI x4, aI x5, aI x6, aI x7, aI x8, aI x9] none [] h = Run sc n_X1_fillEach 37 [aD p0, aI x1, aI x2, aI x3, aI x4, aI x5, aI x6, aI (x7 + nI 1), aI x8, aI x9] none [] h := by
  refine (s_go mt_X1_fillEach dX1_fillEach_108 rfl).trans ?_
  refine (s_go mt_X1_fillEach dX1_fillEach_111 rfl).trans ?_
  exact rfl
theorem e_X1_fillEach_114 (sc : SC) (p0 : Nat) (x1 : Int32) (x2 : Int32) (x3 : Int32) (x4 : Int32) (x5 : Int32) (x6 : Int32) (x7 : Int32) (v8 : AV) (v9 : AV) (h : AH) : Run sc n_X1_fillEach 114 [aD p0, aI x1, aI x2, aI x3, aI x4, aI x5, aI x6, aI x7, v8, v9] none [] h = bF (getF sc h (aD p0) 4 0) (fun z => Run sc n_X1_fillEach 120 [aD p0, aI x1, aI x2, aI x3, aI x4, aI x5, aI x6, aI x7, v8, v9] none [z, aI x5] h) := by
  refine (s_go mt_X1_fillEach dX1_fillEach_114 rfl).trans ?_
  refine (s_go mt_X1_fillEach dX1_fillEach_116 rfl).trans ?_
  exact q_getfield mt_X1_fillEach dX1_fillEach_117 rfl
theorem e_X1_fillEach_128 (sc : SC) (p0 : Nat) (x1 : Int32) (x2 : Int32) (x3 : Int32) (x4 : Int32) (x5 : Int32) (x6 : Int32) (x7 : Int32) (v8 : AV) (v9 : AV) (y0 : Int32) (h : AH) : Run sc n_X1_fillEach 128 [aD p0, aI x1, aI x2, aI x3, aI x4, aI x5, aI x6, aI x7, v8, v9] none [aI y0] h = Run sc n_X1_fillEach 133 [aD p0, aI x1, aI x2, aI x3, aI x4, aI x5, aI x6, aI x7, v8, v9] none [aI (nI 2), aI y0] h := by
  refine (s_go mt_X1_fillEach dX1_fillEach_128 rfl).trans ?_
  refine (s_go mt_X1_fillEach dX1_fillEach_129 rfl).trans ?_
  exact rfl
theorem e_X1_fillEach_132 (sc : SC) (p0 : Nat) (x1 : Int32) (x2 : Int32) (x3 : Int32) (x4 : Int32) (x5 : Int32) (x6 : Int32) (x7 : Int32) (v8 : AV) (v9 : AV) (y0 : Int32) (h : AH) : Run sc n_X1_fillEach 132 [aD p0, aI x1, aI x2, aI x3, aI x4, aI x5, aI x6, aI x7, v8, v9] none [aI y0] h = Run sc n_X1_fillEach 133 [aD p0, aI x1, aI x2, aI x3, aI x4, aI x5, aI x6, aI x7, v8, v9] none [aI (nI 1), aI y0] h := by
  refine (s_go mt_X1_fillEach dX1_fillEach_132 rfl).trans ?_
  exact rfl
theorem e_X1_fillEach_133 (sc : SC) (p0 : Nat) (x1 : Int32) (x2 : Int32) (x3 : Int32) (x4 : Int32) (x5 : Int32) (x6 : Int32) (x7 : Int32) (v8 : AV) (v9 : AV) (y0 : Int32) (y1 : Int32) (h : AH) : Run sc n_X1_fillEach 133 [aD p0, aI x1, aI x2, aI x3, aI x4, aI x5, aI x6, aI x7, v8, v9] none [aI y1, aI y0] h = Run sc n_X1_fillEach 15 [aD p0, aI x1, aI x2, aI x3, aI x4, aI (y0 + y1), aI (x6 + nI 1), aI x7, v8, v9] none [] h := by
  refine (s_go mt_X1_fillEach dX1_fillEach_133 rfl).trans ?_
  refine (s_go mt_X1_fillEach dX1_fillEach_134 rfl).trans ?_
  refine (s_go mt_X1_fillEach dX1_fillEach_136 rfl).trans ?_
  refine (s_go mt_X1_fillEach dX1_fillEach_139 rfl).trans ?_
  exact rfl
theorem e_X1_fillEach_142 (sc : SC) (p0 : Nat) (x1 : Int32) (x2 : Int32) (x3 : Int32) (x4 : Int32) (x5 : Int32) (x6 : Int32) (v7 : AV) (v8 : AV) (v9 : AV) (h : AH) : Run sc n_X1_fillEach 142 [aD p0, aI x1, aI x2, aI x3, aI x4, aI x5, aI x6, v7, v8, v9] none [] h = some (.inl (some (aI x4)), h) := by
  refine (s_go mt_X1_fillEach dX1_fillEach_142 rfl).trans ?_
  exact q_ret (c := (some (aI x4), h)) mt_X1_fillEach dX1_fillEach_144 rfl
theorem e_X1_fillEach_28 (sc : SC) (p0 : Nat) (x1 : Int32) (x2 : Int32) (x3 : Int32) (x4 : Int32) (x5 : Int32) (x6 : Int32) (v7 : AV) (v8 : AV) (v9 : AV) (y0 : Int32) (q1 : Nat) (h : AH) : Run sc n_X1_fillEach 28 [aD p0, aI x1, aI x2, aI x3, aI x4, aI x5, aI x6, v7, v8, v9] none [aD q1, aI y0] h = bF (getF sc h (aD q1) 8 1) (fun z => Run sc n_X1_fillEach 31 [aD p0, aI x1, aI x2, aI x3, aI x4, aI x5, aI x6, v7, v8, v9] none [z, aI y0] h) := by
  exact q_getfield mt_X1_fillEach dX1_fillEach_28 rfl
theorem e_X1_fillEach_47 (sc : SC) (p0 : Nat) (x1 : Int32) (x2 : Int32) (x3 : Int32) (x4 : Int32) (x5 : Int32) (x6 : Int32) (x7 : Int32) (v8 : AV) (v9 : AV) (q0 : Nat) (h : AH) : Run sc n_X1_fillEach 47 [aD p0, aI x1, aI x2, aI x3, aI x4, aI x5, aI x6, aI x7, v8, v9] none [aD q0] h = bI (rOK sc h (aD q0) 8 = true) (bC (Call sc n_X6_hasEmptySlot [aD q0, aI x5] h) (fun v z => Run sc n_X1_fillEach 52 [aD p0, aI x1, aI x2, aI x3, aI x4, aI x5, aI x6, aI x7, v8, v9] none (v.toList ++ []) z) (fun E z => some (.inr E, z))) := by
  refine (s_go mt_X1_fillEach dX1_fillEach_47 rfl).trans ?_
  exact q_cV mt_X1_fillEach dX1_fillEach_49 rfl mt_X6_hasEmptySlot rfl rfl rfl
theorem e_X1_fillEach_85 (sc : SC) (p0 : Nat) (x1 : Int32) (x2 : Int32) (x3 : Int32) (x4 : Int32) (x5 : Int32) (x6 : Int32) (x7 : Int32) (x8 : Int32) (v9 : AV) (y0 : Int32) (h : AH) : Run sc n_X1_fillEach 85 [aD p0, aI x1, aI x2, aI x3, aI x4, aI x5, aI x6, aI x7, aI x8, v9] none [aI y0] h = Run sc n_X1_fillEach (if y0 = (-1) then 108 else 93) [aD p0, aI x1, aI x2, aI x3, aI x4, aI x5, aI x6, aI x7, aI x8, aI y0] none [] h := by
  refine (s_go mt_X1_fillEach dX1_fillEach_85 rfl).trans ?_
  refine (s_go mt_X1_fillEach dX1_fillEach_87 rfl).trans ?_
  refine (s_go mt_X1_fillEach dX1_fillEach_89 rfl).trans ?_
  exact q_icmp mt_X1_fillEach dX1_fillEach_90 (fun _ _ _ _ => rfl) rfl
theorem e_X1_fillEach_103 (sc : SC) (p0 : Nat) (x1 : Int32) (x2 : Int32) (x3 : Int32) (x4 : Int32) (x5 : Int32) (x6 : Int32) (x7 : Int32) (x8 : Int32) (x9 : Int32) (y0 : Int32) (h : AH) : Run sc n_X1_fillEach 103 [aD p0, aI x1, aI x2, aI x3, aI x4, aI x5, aI x6, aI x7, aI x8, aI x9] none [aI y0] h = Run sc n_X1_fillEach 108 [aD p0, aI x1, aI x2, aI x3, aI (x4 + nI 1), aI y0, aI x6, aI x7, aI x8, aI x9] none [] h := by
  refine (s_go mt_X1_fillEach dX1_fillEach_103 rfl).trans ?_
  refine (s_go mt_X1_fillEach dX1_fillEach_105 rfl).trans ?_
  exact rfl
theorem e_X1_fillEach_120 (sc : SC) (p0 : Nat) (x1 : Int32) (x2 : Int32) (x3 : Int32) (x4 : Int32) (x5 : Int32) (x6 : Int32) (x7 : Int32) (v8 : AV) (v9 : AV) (y0 : Int32) (q1 : Nat) (h : AH) : Run sc n_X1_fillEach 120 [aD p0, aI x1, aI x2, aI x3, aI x4, aI x5, aI x6, aI x7, v8, v9] none [aD q1, aI y0] h = bI (rOK sc h (aD q1) 8 = true) (bC (Call sc n_X6_isBranch [aD q1, aI x5] h) (fun v z => Run sc n_X1_fillEach 125 [aD p0, aI x1, aI x2, aI x3, aI x4, aI x5, aI x6, aI x7, v8, v9] none (v.toList ++ [aI y0]) z) (fun E z => some (.inr E, z))) := by
  refine (s_go mt_X1_fillEach dX1_fillEach_120 rfl).trans ?_
  exact q_cV mt_X1_fillEach dX1_fillEach_122 rfl mt_X6_isBranch rfl rfl rfl
theorem e_X1_fillEach_31 (sc : SC) (p0 : Nat) (x1 : Int32) (x2 : Int32) (x3 : Int32) (x4 : Int32) (x5 : Int32) (x6 : Int32) (v7 : AV) (v8 : AV) (v9 : AV) (y0 : Int32) (y1 : Int32) (h : AH) : Run sc n_X1_fillEach 31 [aD p0, aI x1, aI x2, aI x3, aI x4, aI x5, aI x6, v7, v8, v9] none [aI y1, aI y0] h = Run sc n_X1_fillEach (if y1 ≤ y0 then 142 else 34) [aD p0, aI x1, aI x2, aI x3, aI x4, aI x5, aI x6, v7, v8, v9] none [] h := by
  exact q_icmp mt_X1_fillEach dX1_fillEach_31 (fun _ _ _ _ => rfl) rfl
theorem e_X1_fillEach_52 (sc : SC) (p0 : Nat) (x1 : Int32) (x2 : Int32) (x3 : Int32) (x4 : Int32) (x5 : Int32) (x6 : Int32) (x7 : Int32) (v8 : AV) (v9 : AV) (y0 : Int32) (h : AH) : Run sc n_X1_fillEach 52 [aD p0, aI x1, aI x2, aI x3, aI x4, aI x5, aI x6, aI x7, v8, v9] none [aI y0] h = Run sc n_X1_fillEach (if y0 = 0 then 114 else 55) [aD p0, aI x1, aI x2, aI x3, aI x4, aI x5, aI x6, aI x7, v8, v9] none [] h := by
  exact q_if mt_X1_fillEach dX1_fillEach_52 (fun _ _ _ _ => rfl) rfl
theorem e_X1_fillEach_125 (sc : SC) (p0 : Nat) (x1 : Int32) (x2 : Int32) (x3 : Int32) (x4 : Int32) (x5 : Int32) (x6 : Int32) (x7 : Int32) (v8 : AV) (v9 : AV) (y0 : Int32) (y1 : Int32) (h : AH) : Run sc n_X1_fillEach 125 [aD p0, aI x1, aI x2, aI x3, aI x4, aI x5, aI x6, aI x7, v8, v9] none [aI y1, aI y0] h = Run sc n_X1_fillEach (if y1 = 0 then 132 else 128) [aD p0, aI x1, aI x2, aI x3, aI x4, aI x5, aI x6, aI x7, v8, v9] none [aI y0] h := by
  exact q_if mt_X1_fillEach dX1_fillEach_125 (fun _ _ _ _ => rfl) rfl
/-! BranchSlotFiller$History.<init>()V -/
theorem e_X3_init_0 (sc : SC) (p0 : Nat) (v1 : AV) (h : AH) : Run sc n_X3_init 0 [aD p0, v1] none [] h = bI (¬ ((nI 8) < 0 ∨ 67108864 < (nI 8).toNatClampNeg)) (Run sc n_X3_init 10 [aD p0, v1] none [aD h.1.length, aD p0] (hpush h (oR (nI 8).toNatClampNeg (fun _ => aN)))) := by
  refine (s_go mt_X3_init dX3_init_0 rfl).trans ?_
  refine (s_go mt_X3_init dX3_init_1 rfl).trans ?_
  refine (s_go mt_X3_init dX3_init_4 rfl).trans ?_
  refine (s_go mt_X3_init dX3_init_5 rfl).trans ?_
  exact q_anewarray mt_X3_init dX3_init_7 rfl
theorem e_X3_init_15 (sc : SC) (p0 : Nat) (x1 : Int32) (h : AH) : Run sc n_X3_init 15 [aD p0, aI x1] none [] h = bF (getF sc h (aD p0) 6 0) (fun z => Run sc n_X3_init 20 [aD p0, aI x1] none [z, aI x1] h) := by
  refine (s_go mt_X3_init dX3_init_15 rfl).trans ?_
  refine (s_go mt_X3_init dX3_init_16 rfl).trans ?_
  exact q_getfield mt_X3_init dX3_init_17 rfl
theorem e_X3_init_24 (sc : SC) (p0 : Nat) (x1 : Int32) (h : AH) : Run sc n_X3_init 24 [aD p0, aI x1] none [] h = bF (getF sc h (aD p0) 6 0) (fun z => Run sc n_X3_init 28 [aD p0, aI x1] none [z] h) := by
  refine (s_go mt_X3_init dX3_init_24 rfl).trans ?_
  exact q_getfield mt_X3_init dX3_init_25 rfl
theorem e_X3_init_45 (sc : SC) (p0 : Nat) (x1 : Int32) (h : AH) : Run sc n_X3_init 45 [aD p0, aI x1] none [] h = some (.inl none, h) := by
  exact q_ret (c := (none, h)) mt_X3_init dX3_init_45 rfl
theorem e_X3_init_10 (sc : SC) (p0 : Nat) (v1 : AV) (q0 : Nat) (q1 : Nat) (h : AH) : Run sc n_X3_init 10 [aD p0, v1] none [aD q1, aD q0] h = bO (putF h q0 6 0 3 (aD q1)) (fun z => Run sc n_X3_init 13 [aD p0, v1] none [] z) := by
  exact q_putfield mt_X3_init dX3_init_10 rfl rfl rfl rfl
theorem e_X3_init_20 (sc : SC) (p0 : Nat) (x1 : Int32) (y0 : Int32) (q1 : Nat) (h : AH) : Run sc n_X3_init 20 [aD p0, aI x1] none [aD q1, aI y0] h = bO (lenA sc h (aD q1)) (fun z => Run sc n_X3_init 21 [aD p0, aI x1] none [aI (nI z), aI y0] h) := by
  exact q_alen mt_X3_init dX3_init_20
theorem e_X3_init_28 (sc : SC) (p0 : Nat) (x1 : Int32) (q0 : Nat) (h : AH) : Run sc n_X3_init 28 [aD p0, aI x1] none [aD q0] h = bC (Call sc n_X6_init [aD h.1.length, aI (nI 60)] (hpush h (oO 8 [aN, aI 0]))) (fun v z => Run sc n_X3_init 38 [aD p0, aI x1] none (v.toList ++ [aD h.1.length, aI x1, aD q0]) z) (fun _ _ => none) := by
  refine (s_go mt_X3_init dX3_init_28 rfl).trans ?_
  refine (s_go mt_X3_init dX3_init_29 rfl).trans ?_
  refine (s_go mt_X3_init dX3_init_32 rfl).trans ?_
  refine (s_go mt_X3_init dX3_init_33 rfl).trans ?_
  exact q_cI mt_X3_init dX3_init_35 rfl mt_X6_init rfl rfl rfl
theorem e_X3_init_13 (sc : SC) (p0 : Nat) (v1 : AV) (h : AH) : Run sc n_X3_init 13 [aD p0, v1] none [] h = Run sc n_X3_init 15 [aD p0, aI (nI 0)] none [] h := by
  refine (s_go mt_X3_init dX3_init_13 rfl).trans ?_
  refine (s_go mt_X3_init dX3_init_14 rfl).trans ?_
  exact rfl
theorem e_X3_init_21 (sc : SC) (p0 : Nat) (x1 : Int32) (y0 : Int32) (y1 : Int32) (h : AH) : Run sc n_X3_init 21 [aD p0, aI x1] none [aI y1, aI y0] h = Run sc n_X3_init (if y1 ≤ y0 then 45 else 24) [aD p0, aI x1] none [] h := by
  exact q_icmp mt_X3_init dX3_init_21 (fun _ _ _ _ => rfl) rfl
theorem e_X3_init_38 (sc : SC) (p0 : Nat) (x1 : Int32) (q0 : Nat) (y1 : Int32) (q2 : Nat) (h : AH) : Run sc n_X3_init 38 [aD p0, aI x1] none [aD q2, aI y1, aD q0] h = bO (stR h q0 y1 (aD q2)) (fun z => Run sc n_X3_init 39 [aD p0, aI x1] none [] z) := by
  exact q_aastore mt_X3_init dX3_init_38
theorem e_X3_init_39 (sc : SC) (p0 : Nat) (x1 : Int32) (h : AH) : Run sc n_X3_init 39 [aD p0, aI x1] none [] h = Run sc n_X3_init 15 [aD p0, aI (x1 + nI 1)] none [] h := by
  refine (s_go mt_X3_init dX3_init_39 rfl).trans ?_
  refine (s_go mt_X3_init dX3_init_42 rfl).trans ?_
  exact rfl
/-! BranchSlotFiller$History.remember(LBranchSlotFiller$Program;)V -/
theorem e_X3_remember_0 (sc : SC) (p0 : Nat) (p1 : Nat) (h : AH) : Run sc n_X3_remember 0 [aD p0, aD p1] none [] h = bF (getF sc h (aD p0) 6 0) (fun z => Run sc n_X3_remember 4 [aD p0, aD p1] none [z] h) := by
  refine (s_go mt_X3_remember dX3_remember_0 rfl).trans ?_
  exact q_getfield mt_X3_remember dX3_remember_1 rfl
theorem e_X3_remember_4 (sc : SC) (p0 : Nat) (p1 : Nat) (q0 : Nat) (h : AH) : Run sc n_X3_remember 4 [aD p0, aD p1] none [aD q0] h = bF (getF sc h (aD p0) 6 1) (fun z => Run sc n_X3_remember 8 [aD p0, aD p1] none [z, aD q0] h) := by
  refine (s_go mt_X3_remember dX3_remember_4 rfl).trans ?_
  exact q_getfield mt_X3_remember dX3_remember_5 rfl
theorem e_X3_remember_8 (sc : SC) (p0 : Nat) (p1 : Nat) (q0 : Nat) (y1 : Int32) (h : AH) : Run sc n_X3_remember 8 [aD p0, aD p1] none [aI y1, aD q0] h = bO (ldR sc h (aD q0) y1) (fun z => Run sc n_X3_remember 9 [aD p0, aD p1] none [z] h) := by
  exact q_aaload mt_X3_remember dX3_remember_8
theorem e_X3_remember_9 (sc : SC) (p0 : Nat) (p1 : Nat) (q0 : Nat) (h : AH) : Run sc n_X3_remember 9 [aD p0, aD p1] none [aD q0] h = bI (rOK sc h (aD q0) 8 = true) (bC (Call sc n_X6_copyFrom [aD q0, aD p1] h) (fun v z => Run sc n_X3_remember 13 [aD p0, aD p1] none (v.toList ++ []) z) (fun E z => some (.inr E, z))) := by
  refine (s_go mt_X3_remember dX3_remember_9 rfl).trans ?_
  exact q_cV mt_X3_remember dX3_remember_10 rfl mt_X6_copyFrom rfl rfl rfl
theorem e_X3_remember_13 (sc : SC) (p0 : Nat) (p1 : Nat) (h : AH) : Run sc n_X3_remember 13 [aD p0, aD p1] none [] h = bF (getF sc h (aD p0) 6 1) (fun z => Run sc n_X3_remember 18 [aD p0, aD p1] none [z, aD p0] h) := by
  refine (s_go mt_X3_remember dX3_remember_13 rfl).trans ?_
  refine (s_go mt_X3_remember dX3_remember_14 rfl).trans ?_
  exact q_getfield mt_X3_remember dX3_remember_15 rfl
theorem e_X3_remember_18 (sc : SC) (p0 : Nat) (p1 : Nat) (q0 : Nat) (y1 : Int32) (h : AH) : Run sc n_X3_remember 18 [aD p0, aD p1] none [aI y1, aD q0] h = bI (¬ (nI 8) = 0) (Run sc n_X3_remember 23 [aD p0, aD p1] none [aI ((y1 + (nI 1)) - (y1 + (nI 1)) / (nI 8) * (nI 8)), aD q0] h) := by
  refine (s_go mt_X3_remember dX3_remember_18 rfl).trans ?_
  refine (s_go mt_X3_remember dX3_remember_19 rfl).trans ?_
  refine (s_go mt_X3_remember dX3_remember_20 rfl).trans ?_
  exact q_irem mt_X3_remember dX3_remember_22
theorem e_X3_remember_23 (sc : SC) (p0 : Nat) (p1 : Nat) (q0 : Nat) (y1 : Int32) (h : AH) : Run sc n_X3_remember 23 [aD p0, aD p1] none [aI y1, aD q0] h = bO (putF h q0 6 1 0 (aI y1)) (fun z => Run sc n_X3_remember 26 [aD p0, aD p1] none [] z) := by
  exact q_putfield mt_X3_remember dX3_remember_23 rfl rfl rfl rfl
theorem e_X3_remember_26 (sc : SC) (p0 : Nat) (p1 : Nat) (h : AH) : Run sc n_X3_remember 26 [aD p0, aD p1] none [] h = bF (getF sc h (aD p0) 6 2) (fun z => Run sc n_X3_remember 31 [aD p0, aD p1] none [z, aD p0] h) := by
  refine (s_go mt_X3_remember dX3_remember_26 rfl).trans ?_
  refine (s_go mt_X3_remember dX3_remember_27 rfl).trans ?_
  exact q_getfield mt_X3_remember dX3_remember_28 rfl
theorem e_X3_remember_31 (sc : SC) (p0 : Nat) (p1 : Nat) (q0 : Nat) (y1 : Int32) (h : AH) : Run sc n_X3_remember 31 [aD p0, aD p1] none [aI y1, aD q0] h = bO (putF h q0 6 2 0 (aI (if (nI 8) < (y1 + (nI 1)) then (nI 8) else (y1 + (nI 1))))) (fun z => Run sc n_X3_remember 41 [aD p0, aD p1] none [] z) := by
  refine (s_go mt_X3_remember dX3_remember_31 rfl).trans ?_
  refine (s_go mt_X3_remember dX3_remember_32 rfl).trans ?_
  refine (s_go mt_X3_remember dX3_remember_33 rfl).trans ?_
  refine (s_go mt_X3_remember dX3_remember_35 rfl).trans ?_
  exact q_putfield mt_X3_remember dX3_remember_38 rfl rfl rfl rfl
theorem e_X3_remember_41 (sc : SC) (p0 : Nat) (p1 : Nat) (h : AH) : Run sc n_X3_remember 41 [aD p0, aD p1] none [] h = some (.inl none, h) := by
  exact q_ret (c := (none, h)) mt_X3_remember dX3_remember_41 rfl
/-! BranchSlotFiller$History.takeBack(LBranchSlotFiller$Program;)V -/
theorem e_X3_takeBack_0 (sc : SC) (p0 : Nat) (p1 : Nat) (h : AH) : Run sc n_X3_takeBack 0 [aD p0, aD p1] none [] h = bF (getF sc h (aD p0) 6 1) (fun z => Run sc n_X3_takeBack 5 [aD p0, aD p1] none [z, aD p0] h) := by
  refine (s_go mt_X3_takeBack dX3_takeBack_0 rfl).trans ?_
  refine (s_go mt_X3_takeBack dX3_takeBack_1 rfl).trans ?_
  exact q_getfield mt_X3_takeBack dX3_takeBack_2 rfl
theorem e_X3_takeBack_5 (sc : SC) (p0 : Nat) (p1 : Nat) (q0 : Nat) (y1 : Int32) (h : AH) : Run sc n_X3_takeBack 5 [aD p0, aD p1] none [aI y1, aD q0] h = bI (¬ (nI 8) = 0) (Run sc n_X3_takeBack 13 [aD p0, aD p1] none [aI (((y1 + (nI 8)) - (nI 1)) - ((y1 + (nI 8)) - (nI 1)) / (nI 8) * (nI 8)), aD q0] h) := by
  refine (s_go mt_X3_takeBack dX3_takeBack_5 rfl).trans ?_
  refine (s_go mt_X3_takeBack dX3_takeBack_7 rfl).trans ?_
  refine (s_go mt_X3_takeBack dX3_takeBack_8 rfl).trans ?_
  refine (s_go mt_X3_takeBack dX3_takeBack_9 rfl).trans ?_
  refine (s_go mt_X3_takeBack dX3_takeBack_10 rfl).trans ?_
  exact q_irem mt_X3_takeBack dX3_takeBack_12
theorem e_X3_takeBack_13 (sc : SC) (p0 : Nat) (p1 : Nat) (q0 : Nat) (y1 : Int32) (h : AH) : Run sc n_X3_takeBack 13 [aD p0, aD p1] none [aI y1, aD q0] h = bO (putF h q0 6 1 0 (aI y1)) (fun z => Run sc n_X3_takeBack 16 [aD p0, aD p1] none [] z) := by
  exact q_putfield mt_X3_takeBack dX3_takeBack_13 rfl rfl rfl rfl
theorem e_X3_takeBack_16 (sc : SC) (p0 : Nat) (p1 : Nat) (h : AH) : Run sc n_X3_takeBack 16 [aD p0, aD p1] none [] h = bF (getF sc h (aD p0) 6 0) (fun z => Run sc n_X3_takeBack 21 [aD p0, aD p1] none [z, aD p1] h) := by
  refine (s_go mt_X3_takeBack dX3_takeBack_16 rfl).trans ?_
  refine (s_go mt_X3_takeBack dX3_takeBack_17 rfl).trans ?_
  exact q_getfield mt_X3_takeBack dX3_takeBack_18 rfl
theorem e_X3_takeBack_21 (sc : SC) (p0 : Nat) (p1 : Nat) (q0 : Nat) (q1 : Nat) (h : AH) : Run sc n_X3_takeBack 21 [aD p0, aD p1] none [aD q1, aD q0] h = bF (getF sc h (aD p0) 6 1) (fun z => Run sc n_X3_takeBack 25 [aD p0, aD p1] none [z, aD q1, aD q0] h) := by
  refine (s_go mt_X3_takeBack dX3_takeBack_21 rfl).trans ?_
  exact q_getfield mt_X3_takeBack dX3_takeBack_22 rfl
theorem e_X3_takeBack_25 (sc : SC) (p0 : Nat) (p1 : Nat) (q0 : Nat) (q1 : Nat) (y2 : Int32) (h : AH) : Run sc n_X3_takeBack 25 [aD p0, aD p1] none [aI y2, aD q1, aD q0] h = bO (ldR sc h (aD q1) y2) (fun z => Run sc n_X3_takeBack 26 [aD p0, aD p1] none [z, aD q0] h) := by
  exact q_aaload mt_X3_takeBack dX3_takeBack_25
theorem e_X3_takeBack_26 (sc : SC) (p0 : Nat) (p1 : Nat) (q0 : Nat) (q1 : Nat) (h : AH) : Run sc n_X3_takeBack 26 [aD p0, aD p1] none [aD q1, aD q0] h = bI (rOK sc h (aD q0) 8 = true) (bC (Call sc n_X6_copyFrom [aD q0, aD q1] h) (fun v z => Run sc n_X3_takeBack 29 [aD p0, aD p1] none (v.toList ++ []) z) (fun E z => some (.inr E, z))) := by
  exact q_cV mt_X3_takeBack dX3_takeBack_26 rfl mt_X6_copyFrom rfl rfl rfl
theorem e_X3_takeBack_29 (sc : SC) (p0 : Nat) (p1 : Nat) (h : AH) : Run sc n_X3_takeBack 29 [aD p0, aD p1] none [] h = bF (getF sc h (aD p0) 6 2) (fun z => Run sc n_X3_takeBack 34 [aD p0, aD p1] none [z, aD p0] h) := by
  refine (s_go mt_X3_takeBack dX3_takeBack_29 rfl).trans ?_
  refine (s_go mt_X3_takeBack dX3_takeBack_30 rfl).trans ?_
  exact q_getfield mt_X3_takeBack dX3_takeBack_31 rfl
theorem e_X3_takeBack_34 (sc : SC) (p0 : Nat) (p1 : Nat) (q0 : Nat) (y1 : Int32) (h : AH) : Run sc n_X3_takeBack 34 [aD p0, aD p1] none [aI y1, aD q0] h = bO (putF h q0 6 2 0 (aI (y1 - (nI 1)))) (fun z => Run sc n_X3_takeBack 39 [aD p0, aD p1] none [] z) := by
  refine (s_go mt_X3_takeBack dX3_takeBack_34 rfl).trans ?_
  refine (s_go mt_X3_takeBack dX3_takeBack_35 rfl).trans ?_
  exact q_putfield mt_X3_takeBack dX3_takeBack_36 rfl rfl rfl rfl
theorem e_X3_takeBack_39 (sc : SC) (p0 : Nat) (p1 : Nat) (h : AH) : Run sc n_X3_takeBack 39 [aD p0, aD p1] none [] h = some (.inl none, h) := by
  exact q_ret (c := (none, h)) mt_X3_takeBack dX3_takeBack_39 rfl
/-! BranchSlotFiller$Machine.<init>(I)V -/
theorem e_X5_init_0 (sc : SC) (p0 : Nat) (x1 : Int32) (h : AH) : Run sc n_X5_init 0 [aD p0, aI x1] none [] h = bI (¬ ((nI 24) < 0 ∨ 67108864 < (nI 24).toNatClampNeg)) (Run sc n_X5_init 9 [aD p0, aI x1] none [aD h.1.length, aD p0] (hpush h (oI 0 (nI 24).toNatClampNeg (fun _ => 0)))) := by
  refine (s_go mt_X5_init dX5_init_0 rfl).trans ?_
  refine (s_go mt_X5_init dX5_init_1 rfl).trans ?_
  refine (s_go mt_X5_init dX5_init_4 rfl).trans ?_
  refine (s_go mt_X5_init dX5_init_5 rfl).trans ?_
  exact q_newarray (mk := fun m => oI 0 m (fun _ => 0)) mt_X5_init dX5_init_7 (fun _ => rfl)
theorem e_X5_init_9 (sc : SC) (p0 : Nat) (x1 : Int32) (q0 : Nat) (q1 : Nat) (h : AH) : Run sc n_X5_init 9 [aD p0, aI x1] none [aD q1, aD q0] h = bO (putF h q0 7 0 3 (aD q1)) (fun z => Run sc n_X5_init 12 [aD p0, aI x1] none [] z) := by
  exact q_putfield mt_X5_init dX5_init_9 rfl rfl rfl rfl
theorem e_X5_init_12 (sc : SC) (p0 : Nat) (x1 : Int32) (h : AH) : Run sc n_X5_init 12 [aD p0, aI x1] none [] h = bI (¬ (x1 < 0 ∨ 67108864 < (x1).toNatClampNeg)) (Run sc n_X5_init 16 [aD p0, aI x1] none [aD h.1.length, aD p0] (hpush h (oI 0 (x1).toNatClampNeg (fun _ => 0)))) := by
  refine (s_go mt_X5_init dX5_init_12 rfl).trans ?_
  refine (s_go mt_X5_init dX5_init_13 rfl).trans ?_
  exact q_newarray (mk := fun m => oI 0 m (fun _ => 0)) mt_X5_init dX5_init_14 (fun _ => rfl)
theorem e_X5_init_16 (sc : SC) (p0 : Nat) (x1 : Int32) (q0 : Nat) (q1 : Nat) (h : AH) : Run sc n_X5_init 16 [aD p0, aI x1] none [aD q1, aD q0] h = bO (putF h q0 7 1 3 (aD q1)) (fun z => Run sc n_X5_init 19 [aD p0, aI x1] none [] z) := by
  exact q_putfield mt_X5_init dX5_init_16 rfl rfl rfl rfl
theorem e_X5_init_19 (sc : SC) (p0 : Nat) (x1 : Int32) (h : AH) : Run sc n_X5_init 19 [aD p0, aI x1] none [] h = some (.inl none, h) := by
  exact q_ret (c := (none, h)) mt_X5_init dX5_init_19 rfl
/-! BranchSlotFiller$Machine.conditionHolds(LBranchSlotFiller$Program;I)Z -/
theorem e_X5_conditionHolds_0 (sc : SC) (p0 : Nat) (p1 : Nat) (x2 : Int32) (v3 : AV) (v4 : AV) (h : AH) : Run sc n_X5_conditionHolds 0 [aD p0, aD p1, aI x2, v3, v4] none [] h = bI (rOK sc h (aD p1) 8 = true) (bC (Call sc n_X6_kind [aD p1, aI x2] h) (fun v z => Run sc n_X5_conditionHolds 5 [aD p0, aD p1, aI x2, v3, v4] none (v.toList ++ []) z) (fun E z => some (.inr E, z))) := by
  refine (s_go mt_X5_conditionHolds dX5_conditionHolds_0 rfl).trans ?_
  refine (s_go mt_X5_conditionHolds dX5_conditionHolds_1 rfl).trans ?_
  exact q_cV mt_X5_conditionHolds dX5_conditionHolds_2 rfl mt_X6_kind rfl rfl rfl
theorem e_X5_conditionHolds_11 (sc : SC) (p0 : Nat) (p1 : Nat) (x2 : Int32) (v3 : AV) (v4 : AV) (h : AH) : Run sc n_X5_conditionHolds 11 [aD p0, aD p1, aI x2, v3, v4] none [] h = some (.inl (some (aI (nI 1))), h) := by
  refine (s_go mt_X5_conditionHolds dX5_conditionHolds_11 rfl).trans ?_
  exact q_ret (c := (some (aI (nI 1)), h)) mt_X5_conditionHolds dX5_conditionHolds_12 rfl
theorem e_X5_conditionHolds_13 (sc : SC) (p0 : Nat) (p1 : Nat) (x2 : Int32) (v3 : AV) (v4 : AV) (h : AH) : Run sc n_X5_conditionHolds 13 [aD p0, aD p1, aI x2, v3, v4] none [] h = bF (getF sc h (aD p0) 7 0) (fun z => Run sc n_X5_conditionHolds 17 [aD p0, aD p1, aI x2, v3, v4] none [z] h) := by
  refine (s_go mt_X5_conditionHolds dX5_conditionHolds_13 rfl).trans ?_
  exact q_getfield mt_X5_conditionHolds dX5_conditionHolds_14 rfl
theorem e_X5_conditionHolds_49 (sc : SC) (p0 : Nat) (p1 : Nat) (x2 : Int32) (x3 : Int32) (x4 : Int32) (h : AH) : Run sc n_X5_conditionHolds 49 [aD p0, aD p1, aI x2, aI x3, aI x4] none [] h = Run sc n_X5_conditionHolds (if ¬ x3 = x4 then 59 else 55) [aD p0, aD p1, aI x2, aI x3, aI x4] none [] h := by
  refine (s_go mt_X5_conditionHolds dX5_conditionHolds_49 rfl).trans ?_
  refine (s_go mt_X5_conditionHolds dX5_conditionHolds_50 rfl).trans ?_
  exact q_icmp mt_X5_conditionHolds dX5_conditionHolds_52 (fun _ _ _ _ => rfl) rfl
theorem e_X5_conditionHolds_55 (sc : SC) (p0 : Nat) (p1 : Nat) (x2 : Int32) (x3 : Int32) (x4 : Int32) (h : AH) : Run sc n_X5_conditionHolds 55 [aD p0, aD p1, aI x2, aI x3, aI x4] none [] h = Run sc n_X5_conditionHolds 74 [aD p0, aD p1, aI x2, aI x3, aI x4] none [aI (nI 1)] h := by
  refine (s_go mt_X5_conditionHolds dX5_conditionHolds_55 rfl).trans ?_
  refine (s_go mt_X5_conditionHolds dX5_conditionHolds_56 rfl).trans ?_
  exact rfl
theorem e_X5_conditionHolds_59 (sc : SC) (p0 : Nat) (p1 : Nat) (x2 : Int32) (x3 : Int32) (x4 : Int32) (h : AH) : Run sc n_X5_conditionHolds 59 [aD p0, aD p1, aI x2, aI x3, aI x4] none [] h = Run sc n_X5_conditionHolds 74 [aD p0, aD p1, aI x2, aI x3, aI x4] none [aI (nI 0)] h := by
  refine (s_go mt_X5_conditionHolds dX5_conditionHolds_59 rfl).trans ?_
  refine (s_go mt_X5_conditionHolds dX5_conditionHolds_60 rfl).trans ?_
  exact rfl
theorem e_X5_conditionHolds_63 (sc : SC) (p0 : Nat) (p1 : Nat) (x2 : Int32) (x3 : Int32) (x4 : Int32) (h : AH) : Run sc n_X5_conditionHolds 63 [aD p0, aD p1, aI x2, aI x3, aI x4] none [] h = Run sc n_X5_conditionHolds (if x4 ≤ x3 then 73 else 69) [aD p0, aD p1, aI x2, aI x3, aI x4] none [] h := by
  refine (s_go mt_X5_conditionHolds dX5_conditionHolds_63 rfl).trans ?_
  refine (s_go mt_X5_conditionHolds dX5_conditionHolds_64 rfl).trans ?_
  exact q_icmp mt_X5_conditionHolds dX5_conditionHolds_66 (fun _ _ _ _ => rfl) rfl
theorem e_X5_conditionHolds_69 (sc : SC) (p0 : Nat) (p1 : Nat) (x2 : Int32) (x3 : Int32) (x4 : Int32) (h : AH) : Run sc n_X5_conditionHolds 69 [aD p0, aD p1, aI x2, aI x3, aI x4] none [] h = Run sc n_X5_conditionHolds 74 [aD p0, aD p1, aI x2, aI x3, aI x4] none [aI (nI 1)] h := by
  refine (s_go mt_X5_conditionHolds dX5_conditionHolds_69 rfl).trans ?_
  refine (s_go mt_X5_conditionHolds dX5_conditionHolds_70 rfl).trans ?_
  exact rfl
theorem e_X5_conditionHolds_73 (sc : SC) (p0 : Nat) (p1 : Nat) (x2 : Int32) (x3 : Int32) (x4 : Int32) (h : AH) : Run sc n_X5_conditionHolds 73 [aD p0, aD p1, aI x2, aI x3, aI x4] none [] h = Run sc n_X5_conditionHolds 74 [aD p0, aD p1, aI x2, aI x3, aI x4] none [aI (nI 0)] h := by
  refine (s_go mt_X5_conditionHolds dX5_conditionHolds_73 rfl).trans ?_
  exact rfl
theorem e_X5_conditionHolds_74 (sc : SC) (p0 : Nat) (p1 : Nat) (x2 : Int32) (x3 : Int32) (x4 : Int32) (y0 : Int32) (h : AH) : Run sc n_X5_conditionHolds 74 [aD p0, aD p1, aI x2, aI x3, aI x4] none [aI y0] h = bI (retK (some FieldType.boolean) y0 = true) (some (.inl (some (aI y0)), h)) := by
  exact q_iret mt_X5_conditionHolds dX5_conditionHolds_74
theorem e_X5_conditionHolds_5 (sc : SC) (p0 : Nat) (p1 : Nat) (x2 : Int32) (v3 : AV) (v4 : AV) (d0 : Nat) (h : AH) : Run sc n_X5_conditionHolds 5 [aD p0, aD p1, aI x2, v3, v4] none [aC d0] h = bF (getF sc h (aC d0) 100 7) (fun z => Run sc n_X5_conditionHolds 8 [aD p0, aD p1, aI x2, v3, v4] none [z] h) := by
  exact q_getfield mt_X5_conditionHolds dX5_conditionHolds_5 rfl
theorem e_X5_conditionHolds_17 (sc : SC) (p0 : Nat) (p1 : Nat) (x2 : Int32) (v3 : AV) (v4 : AV) (q0 : Nat) (h : AH) : Run sc n_X5_conditionHolds 17 [aD p0, aD p1, aI x2, v3, v4] none [aD q0] h = bI (rOK sc h (aD p1) 8 = true) (bC (Call sc n_X6_part [aD p1, aI x2, aI (nI 1)] h) (fun v z => Run sc n_X5_conditionHolds 23 [aD p0, aD p1, aI x2, v3, v4] none (v.toList ++ [aD q0]) z) (fun E z => some (.inr E, z))) := by
  refine (s_go mt_X5_conditionHolds dX5_conditionHolds_17 rfl).trans ?_
  refine (s_go mt_X5_conditionHolds dX5_conditionHolds_18 rfl).trans ?_
  refine (s_go mt_X5_conditionHolds dX5_conditionHolds_19 rfl).trans ?_
  exact q_cV mt_X5_conditionHolds dX5_conditionHolds_20 rfl mt_X6_part rfl rfl rfl
theorem e_X5_conditionHolds_8 (sc : SC) (p0 : Nat) (p1 : Nat) (x2 : Int32) (v3 : AV) (v4 : AV) (y0 : Int32) (h : AH) : Run sc n_X5_conditionHolds 8 [aD p0, aD p1, aI x2, v3, v4] none [aI y0] h = Run sc n_X5_conditionHolds (if ¬ y0 = 0 then 13 else 11) [aD p0, aD p1, aI x2, v3, v4] none [] h := by
  exact q_if mt_X5_conditionHolds dX5_conditionHolds_8 (fun _ _ _ _ => rfl) rfl
theorem e_X5_conditionHolds_23 (sc : SC) (p0 : Nat) (p1 : Nat) (x2 : Int32) (v3 : AV) (v4 : AV) (q0 : Nat) (y1 : Int32) (h : AH) : Run sc n_X5_conditionHolds 23 [aD p0, aD p1, aI x2, v3, v4] none [aI y1, aD q0] h = bO (ldI sc h (fun t => t == 0) (aD q0) y1) (fun z => Run sc n_X5_conditionHolds 24 [aD p0, aD p1, aI x2, v3, v4] none [aI z] h) := by
  exact q_iaload mt_X5_conditionHolds dX5_conditionHolds_23
theorem e_X5_conditionHolds_24 (sc : SC) (p0 : Nat) (p1 : Nat) (x2 : Int32) (v3 : AV) (v4 : AV) (y0 : Int32) (h : AH) : Run sc n_X5_conditionHolds 24 [aD p0, aD p1, aI x2, v3, v4] none [aI y0] h = bF (getF sc h (aD p0) 7 0) (fun z => Run sc n_X5_conditionHolds 29 [aD p0, aD p1, aI x2, aI y0, v4] none [z] h) := by
  refine (s_go mt_X5_conditionHolds dX5_conditionHolds_24 rfl).trans ?_
  refine (s_go mt_X5_conditionHolds dX5_conditionHolds_25 rfl).trans ?_
  exact q_getfield mt_X5_conditionHolds dX5_conditionHolds_26 rfl
theorem e_X5_conditionHolds_29 (sc : SC) (p0 : Nat) (p1 : Nat) (x2 : Int32) (x3 : Int32) (v4 : AV) (q0 : Nat) (h : AH) : Run sc n_X5_conditionHolds 29 [aD p0, aD p1, aI x2, aI x3, v4] none [aD q0] h = bI (rOK sc h (aD p1) 8 = true) (bC (Call sc n_X6_part [aD p1, aI x2, aI (nI 2)] h) (fun v z => Run sc n_X5_conditionHolds 35 [aD p0, aD p1, aI x2, aI x3, v4] none (v.toList ++ [aD q0]) z) (fun E z => some (.inr E, z))) := by
  refine (s_go mt_X5_conditionHolds dX5_conditionHolds_29 rfl).trans ?_
  refine (s_go mt_X5_conditionHolds dX5_conditionHolds_30 rfl).trans ?_
  refine (s_go mt_X5_conditionHolds dX5_conditionHolds_31 rfl).trans ?_
  exact q_cV mt_X5_conditionHolds dX5_conditionHolds_32 rfl mt_X6_part rfl rfl rfl
theorem e_X5_conditionHolds_35 (sc : SC) (p0 : Nat) (p1 : Nat) (x2 : Int32) (x3 : Int32) (v4 : AV) (q0 : Nat) (y1 : Int32) (h : AH) : Run sc n_X5_conditionHolds 35 [aD p0, aD p1, aI x2, aI x3, v4] none [aI y1, aD q0] h = bO (ldI sc h (fun t => t == 0) (aD q0) y1) (fun z => Run sc n_X5_conditionHolds 36 [aD p0, aD p1, aI x2, aI x3, v4] none [aI z] h) := by
  exact q_iaload mt_X5_conditionHolds dX5_conditionHolds_35
theorem e_X5_conditionHolds_36 (sc : SC) (p0 : Nat) (p1 : Nat) (x2 : Int32) (x3 : Int32) (v4 : AV) (y0 : Int32) (h : AH) : Run sc n_X5_conditionHolds 36 [aD p0, aD p1, aI x2, aI x3, v4] none [aI y0] h = bI (rOK sc h (aD p1) 8 = true) (bC (Call sc n_X6_kind [aD p1, aI x2] h) (fun v z => Run sc n_X5_conditionHolds 43 [aD p0, aD p1, aI x2, aI x3, aI y0] none (v.toList ++ []) z) (fun E z => some (.inr E, z))) := by
  refine (s_go mt_X5_conditionHolds dX5_conditionHolds_36 rfl).trans ?_
  refine (s_go mt_X5_conditionHolds dX5_conditionHolds_38 rfl).trans ?_
  refine (s_go mt_X5_conditionHolds dX5_conditionHolds_39 rfl).trans ?_
  exact q_cV mt_X5_conditionHolds dX5_conditionHolds_40 rfl mt_X6_kind rfl rfl rfl
theorem e_X5_conditionHolds_43 (sc : SC) (p0 : Nat) (p1 : Nat) (x2 : Int32) (x3 : Int32) (x4 : Int32) (d0 : Nat) (h : AH) : Run sc n_X5_conditionHolds 43 [aD p0, aD p1, aI x2, aI x3, aI x4] none [aC d0] h = bI (1 ≤ d0 ∧ d0 < 13 ∧ 1 ≤ 9 ∧ 9 < 13) (Run sc n_X5_conditionHolds (if ¬ d0 = 9 then 63 else 49) [aD p0, aD p1, aI x2, aI x3, aI x4] none [] h) := by
  refine (s_go mt_X5_conditionHolds dX5_conditionHolds_43 rfl).trans ?_
  exact q_acmpne mt_X5_conditionHolds dX5_conditionHolds_46 rfl
/-! BranchSlotFiller$Machine.cellPlace(II)I -/
theorem e_X5_cellPlace_0 (sc : SC) (p0 : Nat) (x1 : Int32) (x2 : Int32) (h : AH) : Run sc n_X5_cellPlace 0 [aD p0, aI x1, aI x2] none [] h = bF (getF sc h (aD p0) 7 0) (fun z => Run sc n_X5_cellPlace 6 [aD p0, aI x1, aI x2] none [z, aI (nI 8)] h) := by
  refine (s_go mt_X5_cellPlace dX5_cellPlace_0 rfl).trans ?_
  refine (s_go mt_X5_cellPlace dX5_cellPlace_2 rfl).trans ?_
  exact q_getfield mt_X5_cellPlace dX5_cellPlace_3 rfl
theorem e_X5_cellPlace_6 (sc : SC) (p0 : Nat) (x1 : Int32) (x2 : Int32) (y0 : Int32) (q1 : Nat) (h : AH) : Run sc n_X5_cellPlace 6 [aD p0, aI x1, aI x2] none [aD q1, aI y0] h = bO (ldI sc h (fun t => t == 0) (aD q1) x1) (fun z => Run sc n_X5_cellPlace 8 [aD p0, aI x1, aI x2] none [aI z, aI y0] h) := by
  refine (s_go mt_X5_cellPlace dX5_cellPlace_6 rfl).trans ?_
  exact q_iaload mt_X5_cellPlace dX5_cellPlace_7
theorem e_X5_cellPlace_8 (sc : SC) (p0 : Nat) (x1 : Int32) (x2 : Int32) (y0 : Int32) (y1 : Int32) (h : AH) : Run sc n_X5_cellPlace 8 [aD p0, aI x1, aI x2] none [aI y1, aI y0] h = some (.inl (some (aI (y0 + ((y1 + x2) &&& (nI 15))))), h) := by
  refine (s_go mt_X5_cellPlace dX5_cellPlace_8 rfl).trans ?_
  refine (s_go mt_X5_cellPlace dX5_cellPlace_9 rfl).trans ?_
  refine (s_go mt_X5_cellPlace dX5_cellPlace_10 rfl).trans ?_
  refine (s_go mt_X5_cellPlace dX5_cellPlace_12 rfl).trans ?_
  refine (s_go mt_X5_cellPlace dX5_cellPlace_13 rfl).trans ?_
  exact q_ret (c := (some (aI (y0 + ((y1 + x2) &&& (nI 15)))), h)) mt_X5_cellPlace dX5_cellPlace_14 rfl
/-! BranchSlotFiller$Machine.perform(LBranchSlotFiller$Program;I)V -/
theorem e_X5_perform_0 (sc : SC) (p0 : Nat) (p1 : Nat) (x2 : Int32) (v3 : AV) (v4 : AV) (v5 : AV) (h : AH) : Run sc n_X5_perform 0 [aD p0, aD p1, aI x2, v3, v4, v5] none [] h = bI (rOK sc h (aD p1) 8 = true) (bC (Call sc n_X6_part [aD p1, aI x2, aI (nI 1)] h) (fun v z => Run sc n_X5_perform 6 [aD p0, aD p1, aI x2, v3, v4, v5] none (v.toList ++ []) z) (fun E z => some (.inr E, z))) := by
  refine (s_go mt_X5_perform dX5_perform_0 rfl).trans ?_
  refine (s_go mt_X5_perform dX5_perform_1 rfl).trans ?_
  refine (s_go mt_X5_perform dX5_perform_2 rfl).trans ?_
  exact q_cV mt_X5_perform dX5_perform_3 rfl mt_X6_part rfl rfl rfl
theorem e_X5_perform_76 (sc : SC) (p0 : Nat) (p1 : Nat) (x2 : Int32) (x3 : Int32) (x4 : Int32) (x5 : Int32) (h : AH) : Run sc n_X5_perform 76 [aD p0, aD p1, aI x2, aI x3, aI x4, aI x5] none [] h = bF (getF sc h (aD p0) 7 0) (fun z => Run sc n_X5_perform 80 [aD p0, aD p1, aI x2, aI x3, aI x4, aI x5] none [z] h) := by
  refine (s_go mt_X5_perform dX5_perform_76 rfl).trans ?_
  exact q_getfield mt_X5_perform dX5_perform_77 rfl
theorem e_X5_perform_87 (sc : SC) (p0 : Nat) (p1 : Nat) (x2 : Int32) (x3 : Int32) (x4 : Int32) (x5 : Int32) (h : AH) : Run sc n_X5_perform 87 [aD p0, aD p1, aI x2, aI x3, aI x4, aI x5] none [] h = bF (getF sc h (aD p0) 7 0) (fun z => Run sc n_X5_perform 91 [aD p0, aD p1, aI x2, aI x3, aI x4, aI x5] none [z] h) := by
  refine (s_go mt_X5_perform dX5_perform_87 rfl).trans ?_
  exact q_getfield mt_X5_perform dX5_perform_88 rfl
theorem e_X5_perform_103 (sc : SC) (p0 : Nat) (p1 : Nat) (x2 : Int32) (x3 : Int32) (x4 : Int32) (x5 : Int32) (h : AH) : Run sc n_X5_perform 103 [aD p0, aD p1, aI x2, aI x3, aI x4, aI x5] none [] h = bF (getF sc h (aD p0) 7 0) (fun z => Run sc n_X5_perform 107 [aD p0, aD p1, aI x2, aI x3, aI x4, aI x5] none [z] h) := by
  refine (s_go mt_X5_perform dX5_perform_103 rfl).trans ?_
  exact q_getfield mt_X5_perform dX5_perform_104 rfl
theorem e_X5_perform_127 (sc : SC) (p0 : Nat) (p1 : Nat) (x2 : Int32) (x3 : Int32) (x4 : Int32) (x5 : Int32) (h : AH) : Run sc n_X5_perform 127 [aD p0, aD p1, aI x2, aI x3, aI x4, aI x5] none [] h = bF (getF sc h (aD p0) 7 0) (fun z => Run sc n_X5_perform 131 [aD p0, aD p1, aI x2, aI x3, aI x4, aI x5] none [z] h) := by
  refine (s_go mt_X5_perform dX5_perform_127 rfl).trans ?_
  exact q_getfield mt_X5_perform dX5_perform_128 rfl
theorem e_X5_perform_151 (sc : SC) (p0 : Nat) (p1 : Nat) (x2 : Int32) (x3 : Int32) (x4 : Int32) (x5 : Int32) (h : AH) : Run sc n_X5_perform 151 [aD p0, aD p1, aI x2, aI x3, aI x4, aI x5] none [] h = bF (getF sc h (aD p0) 7 0) (fun z => Run sc n_X5_perform 155 [aD p0, aD p1, aI x2, aI x3, aI x4, aI x5] none [z] h) := by
  refine (s_go mt_X5_perform dX5_perform_151 rfl).trans ?_
  exact q_getfield mt_X5_perform dX5_perform_152 rfl
theorem e_X5_perform_173 (sc : SC) (p0 : Nat) (p1 : Nat) (x2 : Int32) (x3 : Int32) (x4 : Int32) (x5 : Int32) (h : AH) : Run sc n_X5_perform 173 [aD p0, aD p1, aI x2, aI x3, aI x4, aI x5] none [] h = bF (getF sc h (aD p0) 7 0) (fun z => Run sc n_X5_perform 177 [aD p0, aD p1, aI x2, aI x3, aI x4, aI x5] none [z] h) := by
  refine (s_go mt_X5_perform dX5_perform_173 rfl).trans ?_
  exact q_getfield mt_X5_perform dX5_perform_174 rfl
theorem e_X5_perform_195 (sc : SC) (p0 : Nat) (p1 : Nat) (x2 : Int32) (x3 : Int32) (x4 : Int32) (x5 : Int32) (h : AH) : Run sc n_X5_perform 195 [aD p0, aD p1, aI x2, aI x3, aI x4, aI x5] none [] h = bF (getF sc h (aD p0) 7 1) (fun z => Run sc n_X5_perform 199 [aD p0, aD p1, aI x2, aI x3, aI x4, aI x5] none [z] h) := by
  refine (s_go mt_X5_perform dX5_perform_195 rfl).trans ?_
  exact q_getfield mt_X5_perform dX5_perform_196 rfl
theorem e_X5_perform_223 (sc : SC) (p0 : Nat) (p1 : Nat) (x2 : Int32) (x3 : Int32) (x4 : Int32) (x5 : Int32) (h : AH) : Run sc n_X5_perform 223 [aD p0, aD p1, aI x2, aI x3, aI x4, aI x5] none [] h = some (.inl none, h) := by
  exact q_ret (c := (none, h)) mt_X5_perform dX5_perform_223 rfl
theorem e_X5_perform_6 (sc : SC) (p0 : Nat) (p1 : Nat) (x2 : Int32) (v3 : AV) (v4 : AV) (v5 : AV) (y0 : Int32) (h : AH) : Run sc n_X5_perform 6 [aD p0, aD p1, aI x2, v3, v4, v5] none [aI y0] h = bI (rOK sc h (aD p1) 8 = true) (bC (Call sc n_X6_part [aD p1, aI x2, aI (nI 2)] h) (fun v z => Run sc n_X5_perform 13 [aD p0, aD p1, aI x2, aI y0, v4, v5] none (v.toList ++ []) z) (fun E z => some (.inr E, z))) := by
  refine (s_go mt_X5_perform dX5_perform_6 rfl).trans ?_
  refine (s_go mt_X5_perform dX5_perform_7 rfl).trans ?_
  refine (s_go mt_X5_perform dX5_perform_8 rfl).trans ?_
  refine (s_go mt_X5_perform dX5_perform_9 rfl).trans ?_
  exact q_cV mt_X5_perform dX5_perform_10 rfl mt_X6_part rfl rfl rfl
theorem e_X5_perform_80 (sc : SC) (p0 : Nat) (p1 : Nat) (x2 : Int32) (x3 : Int32) (x4 : Int32) (x5 : Int32) (q0 : Nat) (h : AH) : Run sc n_X5_perform 80 [aD p0, aD p1, aI x2, aI x3, aI x4, aI x5] none [aD q0] h = bO (stI h (fun t => t == 0) q0 x3 x5) (fun z => Run sc n_X5_perform 84 [aD p0, aD p1, aI x2, aI x3, aI x4, aI x5] none [] z) := by
  refine (s_go mt_X5_perform dX5_perform_80 rfl).trans ?_
  refine (s_go mt_X5_perform dX5_perform_81 rfl).trans ?_
  exact q_iastore mt_X5_perform dX5_perform_83
theorem e_X5_perform_91 (sc : SC) (p0 : Nat) (p1 : Nat) (x2 : Int32) (x3 : Int32) (x4 : Int32) (x5 : Int32) (q0 : Nat) (h : AH) : Run sc n_X5_perform 91 [aD p0, aD p1, aI x2, aI x3, aI x4, aI x5] none [aD q0] h = bF (getF sc h (aD p0) 7 0) (fun z => Run sc n_X5_perform 96 [aD p0, aD p1, aI x2, aI x3, aI x4, aI x5] none [z, aI x3, aD q0] h) := by
  refine (s_go mt_X5_perform dX5_perform_91 rfl).trans ?_
  refine (s_go mt_X5_perform dX5_perform_92 rfl).trans ?_
  exact q_getfield mt_X5_perform dX5_perform_93 rfl
theorem e_X5_perform_107 (sc : SC) (p0 : Nat) (p1 : Nat) (x2 : Int32) (x3 : Int32) (x4 : Int32) (x5 : Int32) (q0 : Nat) (h : AH) : Run sc n_X5_perform 107 [aD p0, aD p1, aI x2, aI x3, aI x4, aI x5] none [aD q0] h = bF (getF sc h (aD p0) 7 0) (fun z => Run sc n_X5_perform 112 [aD p0, aD p1, aI x2, aI x3, aI x4, aI x5] none [z, aI x3, aD q0] h) := by
  refine (s_go mt_X5_perform dX5_perform_107 rfl).trans ?_
  refine (s_go mt_X5_perform dX5_perform_108 rfl).trans ?_
  exact q_getfield mt_X5_perform dX5_perform_109 rfl
theorem e_X5_perform_131 (sc : SC) (p0 : Nat) (p1 : Nat) (x2 : Int32) (x3 : Int32) (x4 : Int32) (x5 : Int32) (q0 : Nat) (h : AH) : Run sc n_X5_perform 131 [aD p0, aD p1, aI x2, aI x3, aI x4, aI x5] none [aD q0] h = bF (getF sc h (aD p0) 7 0) (fun z => Run sc n_X5_perform 136 [aD p0, aD p1, aI x2, aI x3, aI x4, aI x5] none [z, aI x3, aD q0] h) := by
  refine (s_go mt_X5_perform dX5_perform_131 rfl).trans ?_
  refine (s_go mt_X5_perform dX5_perform_132 rfl).trans ?_
  exact q_getfield mt_X5_perform dX5_perform_133 rfl
theorem e_X5_perform_155 (sc : SC) (p0 : Nat) (p1 : Nat) (x2 : Int32) (x3 : Int32) (x4 : Int32) (x5 : Int32) (q0 : Nat) (h : AH) : Run sc n_X5_perform 155 [aD p0, aD p1, aI x2, aI x3, aI x4, aI x5] none [aD q0] h = bF (getF sc h (aD p0) 7 0) (fun z => Run sc n_X5_perform 160 [aD p0, aD p1, aI x2, aI x3, aI x4, aI x5] none [z, aI x3, aD q0] h) := by
  refine (s_go mt_X5_perform dX5_perform_155 rfl).trans ?_
  refine (s_go mt_X5_perform dX5_perform_156 rfl).trans ?_
  exact q_getfield mt_X5_perform dX5_perform_157 rfl
theorem e_X5_perform_177 (sc : SC) (p0 : Nat) (p1 : Nat) (x2 : Int32) (x3 : Int32) (x4 : Int32) (x5 : Int32) (q0 : Nat) (h : AH) : Run sc n_X5_perform 177 [aD p0, aD p1, aI x2, aI x3, aI x4, aI x5] none [aD q0] h = bI (rOK sc h (aD p0) 7 = true) (bC (Call sc n_X5_cellPlace [aD p0, aI x4, aI x5] h) (fun v z => Run sc n_X5_perform 185 [aD p0, aD p1, aI x2, aI x3, aI x4, aI x5] none (v.toList ++ [aD q0]) z) (fun E z => some (.inr E, z))) := by
  refine (s_go mt_X5_perform dX5_perform_177 rfl).trans ?_
  refine (s_go mt_X5_perform dX5_perform_178 rfl).trans ?_
  refine (s_go mt_X5_perform dX5_perform_180 rfl).trans ?_
  exact q_cV mt_X5_perform dX5_perform_182 rfl mt_X5_cellPlace rfl rfl rfl
theorem e_X5_perform_199 (sc : SC) (p0 : Nat) (p1 : Nat) (x2 : Int32) (x3 : Int32) (x4 : Int32) (x5 : Int32) (q0 : Nat) (h : AH) : Run sc n_X5_perform 199 [aD p0, aD p1, aI x2, aI x3, aI x4, aI x5] none [aD q0] h = bF (getF sc h (aD p0) 7 2) (fun z => Run sc n_X5_perform 203 [aD p0, aD p1, aI x2, aI x3, aI x4, aI x5] none [z, aD q0] h) := by
  refine (s_go mt_X5_perform dX5_perform_199 rfl).trans ?_
  exact q_getfield mt_X5_perform dX5_perform_200 rfl
theorem e_X5_perform_13 (sc : SC) (p0 : Nat) (p1 : Nat) (x2 : Int32) (x3 : Int32) (v4 : AV) (v5 : AV) (y0 : Int32) (h : AH) : Run sc n_X5_perform 13 [aD p0, aD p1, aI x2, aI x3, v4, v5] none [aI y0] h = bI (rOK sc h (aD p1) 8 = true) (bC (Call sc n_X6_part [aD p1, aI x2, aI (nI 3)] h) (fun v z => Run sc n_X5_perform 21 [aD p0, aD p1, aI x2, aI x3, aI y0, v5] none (v.toList ++ []) z) (fun E z => some (.inr E, z))) := by
  refine (s_go mt_X5_perform dX5_perform_13 rfl).trans ?_
  refine (s_go mt_X5_perform dX5_perform_15 rfl).trans ?_
  refine (s_go mt_X5_perform dX5_perform_16 rfl).trans ?_
  refine (s_go mt_X5_perform dX5_perform_17 rfl).trans ?_
  exact q_cV mt_X5_perform dX5_perform_18 rfl mt_X6_part rfl rfl rfl
theorem e_X5_perform_84 (sc : SC) (p0 : Nat) (p1 : Nat) (x2 : Int32) (x3 : Int32) (x4 : Int32) (x5 : Int32) (h : AH) : Run sc n_X5_perform 84 [aD p0, aD p1, aI x2, aI x3, aI x4, aI x5] none [] h = Run sc n_X5_perform 223 [aD p0, aD p1, aI x2, aI x3, aI x4, aI x5] none [] h := by
  refine (s_go mt_X5_perform dX5_perform_84 rfl).trans ?_
  exact rfl
theorem e_X5_perform_96 (sc : SC) (p0 : Nat) (p1 : Nat) (x2 : Int32) (x3 : Int32) (x4 : Int32) (x5 : Int32) (q0 : Nat) (y1 : Int32) (q2 : Nat) (h : AH) : Run sc n_X5_perform 96 [aD p0, aD p1, aI x2, aI x3, aI x4, aI x5] none [aD q2, aI y1, aD q0] h = bO (ldI sc h (fun t => t == 0) (aD q2) x4) (fun z => Run sc n_X5_perform 99 [aD p0, aD p1, aI x2, aI x3, aI x4, aI x5] none [aI z, aI y1, aD q0] h) := by
  refine (s_go mt_X5_perform dX5_perform_96 rfl).trans ?_
  exact q_iaload mt_X5_perform dX5_perform_98
theorem e_X5_perform_112 (sc : SC) (p0 : Nat) (p1 : Nat) (x2 : Int32) (x3 : Int32) (x4 : Int32) (x5 : Int32) (q0 : Nat) (y1 : Int32) (q2 : Nat) (h : AH) : Run sc n_X5_perform 112 [aD p0, aD p1, aI x2, aI x3, aI x4, aI x5] none [aD q2, aI y1, aD q0] h = bO (ldI sc h (fun t => t == 0) (aD q2) x4) (fun z => Run sc n_X5_perform 115 [aD p0, aD p1, aI x2, aI x3, aI x4, aI x5] none [aI z, aI y1, aD q0] h) := by
  refine (s_go mt_X5_perform dX5_perform_112 rfl).trans ?_
  exact q_iaload mt_X5_perform dX5_perform_114
theorem e_X5_perform_136 (sc : SC) (p0 : Nat) (p1 : Nat) (x2 : Int32) (x3 : Int32) (x4 : Int32) (x5 : Int32) (q0 : Nat) (y1 : Int32) (q2 : Nat) (h : AH) : Run sc n_X5_perform 136 [aD p0, aD p1, aI x2, aI x3, aI x4, aI x5] none [aD q2, aI y1, aD q0] h = bO (ldI sc h (fun t => t == 0) (aD q2) x4) (fun z => Run sc n_X5_perform 139 [aD p0, aD p1, aI x2, aI x3, aI x4, aI x5] none [aI z, aI y1, aD q0] h) := by
  refine (s_go mt_X5_perform dX5_perform_136 rfl).trans ?_
  exact q_iaload mt_X5_perform dX5_perform_138
theorem e_X5_perform_160 (sc : SC) (p0 : Nat) (p1 : Nat) (x2 : Int32) (x3 : Int32) (x4 : Int32) (x5 : Int32) (q0 : Nat) (y1 : Int32) (q2 : Nat) (h : AH) : Run sc n_X5_perform 160 [aD p0, aD p1, aI x2, aI x3, aI x4, aI x5] none [aD q2, aI y1, aD q0] h = bI (rOK sc h (aD p0) 7 = true) (bC (Call sc n_X5_cellPlace [aD p0, aI x4, aI x5] h) (fun v z => Run sc n_X5_perform 168 [aD p0, aD p1, aI x2, aI x3, aI x4, aI x5] none (v.toList ++ [aD q2, aI y1, aD q0]) z) (fun E z => some (.inr E, z))) := by
  refine (s_go mt_X5_perform dX5_perform_160 rfl).trans ?_
  refine (s_go mt_X5_perform dX5_perform_161 rfl).trans ?_
  refine (s_go mt_X5_perform dX5_perform_163 rfl).trans ?_
  exact q_cV mt_X5_perform dX5_perform_165 rfl mt_X5_cellPlace rfl rfl rfl
theorem e_X5_perform_185 (sc : SC) (p0 : Nat) (p1 : Nat) (x2 : Int32) (x3 : Int32) (x4 : Int32) (x5 : Int32) (q0 : Nat) (y1 : Int32) (h : AH) : Run sc n_X5_perform 185 [aD p0, aD p1, aI x2, aI x3, aI x4, aI x5] none [aI y1, aD q0] h = bF (getF sc h (aD p0) 7 0) (fun z => Run sc n_X5_perform 189 [aD p0, aD p1, aI x2, aI x3, aI x4, aI x5] none [z, aI y1, aD q0] h) := by
  refine (s_go mt_X5_perform dX5_perform_185 rfl).trans ?_
  exact q_getfield mt_X5_perform dX5_perform_186 rfl
theorem e_X5_perform_203 (sc : SC) (p0 : Nat) (p1 : Nat) (x2 : Int32) (x3 : Int32) (x4 : Int32) (x5 : Int32) (q0 : Nat) (y1 : Int32) (h : AH) : Run sc n_X5_perform 203 [aD p0, aD p1, aI x2, aI x3, aI x4, aI x5] none [aI y1, aD q0] h = bF (getF sc h (aD p0) 7 0) (fun z => Run sc n_X5_perform 207 [aD p0, aD p1, aI x2, aI x3, aI x4, aI x5] none [z, aI y1, aD q0] h) := by
  refine (s_go mt_X5_perform dX5_perform_203 rfl).trans ?_
  exact q_getfield mt_X5_perform dX5_perform_204 rfl
theorem e_X5_perform_21 (sc : SC) (p0 : Nat) (p1 : Nat) (x2 : Int32) (x3 : Int32) (x4 : Int32) (v5 : AV) (y0 : Int32) (h : AH) : Run sc n_X5_perform 21 [aD p0, aD p1, aI x2, aI x3, aI x4, v5] none [aI y0] h = bI (rOK sc h (aD p1) 8 = true) (bC (Call sc n_X6_kind [aD p1, aI x2] h) (fun v z => Run sc n_X5_perform 31 [aD p0, aD p1, aI x2, aI x3, aI x4, aI y0] none (v.toList ++ [aC 14]) z) (fun E z => some (.inr E, z))) := by
  refine (s_go mt_X5_perform dX5_perform_21 rfl).trans ?_
  refine (s_go mt_X5_perform dX5_perform_23 rfl).trans ?_
  refine (s_go mt_X5_perform dX5_perform_26 rfl).trans ?_
  refine (s_go mt_X5_perform dX5_perform_27 rfl).trans ?_
  exact q_cV mt_X5_perform dX5_perform_28 rfl mt_X6_kind rfl rfl rfl
theorem e_X5_perform_99 (sc : SC) (p0 : Nat) (p1 : Nat) (x2 : Int32) (x3 : Int32) (x4 : Int32) (x5 : Int32) (q0 : Nat) (y1 : Int32) (y2 : Int32) (h : AH) : Run sc n_X5_perform 99 [aD p0, aD p1, aI x2, aI x3, aI x4, aI x5] none [aI y2, aI y1, aD q0] h = bO (stI h (fun t => t == 0) q0 y1 y2) (fun z => Run sc n_X5_perform 100 [aD p0, aD p1, aI x2, aI x3, aI x4, aI x5] none [] z) := by
  exact q_iastore mt_X5_perform dX5_perform_99
theorem e_X5_perform_115 (sc : SC) (p0 : Nat) (p1 : Nat) (x2 : Int32) (x3 : Int32) (x4 : Int32) (x5 : Int32) (q0 : Nat) (y1 : Int32) (y2 : Int32) (h : AH) : Run sc n_X5_perform 115 [aD p0, aD p1, aI x2, aI x3, aI x4, aI x5] none [aI y2, aI y1, aD q0] h = bF (getF sc h (aD p0) 7 0) (fun z => Run sc n_X5_perform 119 [aD p0, aD p1, aI x2, aI x3, aI x4, aI x5] none [z, aI y2, aI y1, aD q0] h) := by
  refine (s_go mt_X5_perform dX5_perform_115 rfl).trans ?_
  exact q_getfield mt_X5_perform dX5_perform_116 rfl
theorem e_X5_perform_139 (sc : SC) (p0 : Nat) (p1 : Nat) (x2 : Int32) (x3 : Int32) (x4 : Int32) (x5 : Int32) (q0 : Nat) (y1 : Int32) (y2 : Int32) (h : AH) : Run sc n_X5_perform 139 [aD p0, aD p1, aI x2, aI x3, aI x4, aI x5] none [aI y2, aI y1, aD q0] h = bF (getF sc h (aD p0) 7 0) (fun z => Run sc n_X5_perform 143 [aD p0, aD p1, aI x2, aI x3, aI x4, aI x5] none [z, aI y2, aI y1, aD q0] h) := by
  refine (s_go mt_X5_perform dX5_perform_139 rfl).trans ?_
  exact q_getfield mt_X5_perform dX5_perform_140 rfl
theorem e_X5_perform_168 (sc : SC) (p0 : Nat) (p1 : Nat) (x2 : Int32) (x3 : Int32) (x4 : Int32) (x5 : Int32) (q0 : Nat) (y1 : Int32) (q2 : Nat) (y3 : Int32) (h : AH) : Run sc n_X5_perform 168 [aD p0, aD p1, aI x2, aI x3, aI x4, aI x5] none [aI y3, aD q2, aI y1, aD q0] h = bO (ldI sc h (fun t => t == 0) (aD q2) y3) (fun z => Run sc n_X5_perform 169 [aD p0, aD p1, aI x2, aI x3, aI x4, aI x5] none [aI z, aI y1, aD q0] h) := by
  exact q_iaload mt_X5_perform dX5_perform_168
theorem e_X5_perform_189 (sc : SC) (p0 : Nat) (p1 : Nat) (x2 : Int32) (x3 : Int32) (x4 : Int32) (x5 : Int32) (q0 : Nat) (y1 : Int32) (q2 : Nat) (h : AH) : Run sc n_X5_perform 189 [aD p0, aD p1, aI x2, aI x3, aI x4, aI x5] none [aD q2, aI y1, aD q0] h = bO (ldI sc h (fun t => t == 0) (aD q2) x3) (fun z => Run sc n_X5_perform 191 [aD p0, aD p1, aI x2, aI x3, aI x4, aI x5] none [aI z, aI y1, aD q0] h) := by
  refine (s_go mt_X5_perform dX5_perform_189 rfl).trans ?_
  exact q_iaload mt_X5_perform dX5_perform_190
theorem e_X5_perform_207 (sc : SC) (p0 : Nat) (p1 : Nat) (x2 : Int32) (x3 : Int32) (x4 : Int32) (x5 : Int32) (q0 : Nat) (y1 : Int32) (q2 : Nat) (h : AH) : Run sc n_X5_perform 207 [aD p0, aD p1, aI x2, aI x3, aI x4, aI x5] none [aD q2, aI y1, aD q0] h = bO (ldI sc h (fun t => t == 0) (aD q2) x3) (fun z => Run sc n_X5_perform 209 [aD p0, aD p1, aI x2, aI x3, aI x4, aI x5] none [aI z, aI y1, aD q0] h) := by
  refine (s_go mt_X5_perform dX5_perform_207 rfl).trans ?_
  exact q_iaload mt_X5_perform dX5_perform_208
theorem e_X5_perform_31 (sc : SC) (p0 : Nat) (p1 : Nat) (x2 : Int32) (x3 : Int32) (x4 : Int32) (x5 : Int32) (d0 : Nat) (d1 : Nat) (h : AH) : Run sc n_X5_perform 31 [aD p0, aD p1, aI x2, aI x3, aI x4, aI x5] none [aC d1, aC d0] h = bI (rOK sc h (aC d1) 100 = true) (bC (Call sc n_Jx29ce0_ordinal_8abf5 [aC d1] h) (fun v z => Run sc n_X5_perform 34 [aD p0, aD p1, aI x2, aI x3, aI x4, aI x5] none (v.toList ++ [aC d0]) z) (fun _ _ => none)) := by
  exact q_cU mt_X5_perform dX5_perform_31 rfl mt_Jx29ce0_ordinal_8abf5 rfl rfl
theorem e_X5_perform_100 (sc : SC) (p0 : Nat) (p1 : Nat) (x2 : Int32) (x3 : Int32) (x4 : Int32) (x5 : Int32) (h : AH) : Run sc n_X5_perform 100 [aD p0, aD p1, aI x2, aI x3, aI x4, aI x5] none [] h = Run sc n_X5_perform 223 [aD p0, aD p1, aI x2, aI x3, aI x4, aI x5] none [] h := by
  refine (s_go mt_X5_perform dX5_perform_100 rfl).trans ?_
  exact rfl
theorem e_X5_perform_119 (sc : SC) (p0 : Nat) (p1 : Nat) (x2 : Int32) (x3 : Int32) (x4 : Int32) (x5 : Int32) (q0 : Nat) (y1 : Int32) (y2 : Int32) (q3 : Nat) (h : AH) : Run sc n_X5_perform 119 [aD p0, aD p1, aI x2, aI x3, aI x4, aI x5] none [aD q3, aI y2, aI y1, aD q0] h = bO (ldI sc h (fun t => t == 0) (aD q3) x5) (fun z => Run sc n_X5_perform 122 [aD p0, aD p1, aI x2, aI x3, aI x4, aI x5] none [aI z, aI y2, aI y1, aD q0] h) := by
  refine (s_go mt_X5_perform dX5_perform_119 rfl).trans ?_
  exact q_iaload mt_X5_perform dX5_perform_121
theorem e_X5_perform_143 (sc : SC) (p0 : Nat) (p1 : Nat) (x2 : Int32) (x3 : Int32) (x4 : Int32) (x5 : Int32) (q0 : Nat) (y1 : Int32) (y2 : Int32) (q3 : Nat) (h : AH) : Run sc n_X5_perform 143 [aD p0, aD p1, aI x2, aI x3, aI x4, aI x5] none [aD q3, aI y2, aI y1, aD q0] h = bO (ldI sc h (fun t => t == 0) (aD q3) x5) (fun z => Run sc n_X5_perform 146 [aD p0, aD p1, aI x2, aI x3, aI x4, aI x5] none [aI z, aI y2, aI y1, aD q0] h) := by
  refine (s_go mt_X5_perform dX5_perform_143 rfl).trans ?_
  exact q_iaload mt_X5_perform dX5_perform_145
theorem e_X5_perform_169 (sc : SC) (p0 : Nat) (p1 : Nat) (x2 : Int32) (x3 : Int32) (x4 : Int32) (x5 : Int32) (q0 : Nat) (y1 : Int32) (y2 : Int32) (h : AH) : Run sc n_X5_perform 169 [aD p0, aD p1, aI x2, aI x3, aI x4, aI x5] none [aI y2, aI y1, aD q0] h = bO (stI h (fun t => t == 0) q0 y1 y2) (fun z => Run sc n_X5_perform 170 [aD p0, aD p1, aI x2, aI x3, aI x4, aI x5] none [] z) := by
  exact q_iastore mt_X5_perform dX5_perform_169
theorem e_X5_perform_191 (sc : SC) (p0 : Nat) (p1 : Nat) (x2 : Int32) (x3 : Int32) (x4 : Int32) (x5 : Int32) (q0 : Nat) (y1 : Int32) (y2 : Int32) (h : AH) : Run sc n_X5_perform 191 [aD p0, aD p1, aI x2, aI x3, aI x4, aI x5] none [aI y2, aI y1, aD q0] h = bO (stI h (fun t => t == 0) q0 y1 y2) (fun z => Run sc n_X5_perform 192 [aD p0, aD p1, aI x2, aI x3, aI x4, aI x5] none [] z) := by
  exact q_iastore mt_X5_perform dX5_perform_191
theorem e_X5_perform_209 (sc : SC) (p0 : Nat) (p1 : Nat) (x2 : Int32) (x3 : Int32) (x4 : Int32) (x5 : Int32) (q0 : Nat) (y1 : Int32) (y2 : Int32) (h : AH) : Run sc n_X5_perform 209 [aD p0, aD p1, aI x2, aI x3, aI x4, aI x5] none [aI y2, aI y1, aD q0] h = bO (stI h (fun t => t == 0) q0 y1 y2) (fun z => Run sc n_X5_perform 210 [aD p0, aD p1, aI x2, aI x3, aI x4, aI x5] none [] z) := by
  exact q_iastore mt_X5_perform dX5_perform_209
theorem e_X5_perform_34 (sc : SC) (p0 : Nat) (p1 : Nat) (x2 : Int32) (x3 : Int32) (x4 : Int32) (x5 : Int32) (d0 : Nat) (y1 : Int32) (h : AH) : Run sc n_X5_perform 34 [aD p0, aD p1, aI x2, aI x3, aI x4, aI x5] none [aI y1, aC d0] h = bO (ldI sc h (fun t => t == 0) (aC d0) y1) (fun z => Run sc n_X5_perform 35 [aD p0, aD p1, aI x2, aI x3, aI x4, aI x5] none [aI z] h) := by
  exact q_iaload mt_X5_perform dX5_perform_34
theorem e_X5_perform_122 (sc : SC) (p0 : Nat) (p1 : Nat) (x2 : Int32) (x3 : Int32) (x4 : Int32) (x5 : Int32) (q0 : Nat) (y1 : Int32) (y2 : Int32) (y3 : Int32) (h : AH) : Run sc n_X5_perform 122 [aD p0, aD p1, aI x2, aI x3, aI x4, aI x5] none [aI y3, aI y2, aI y1, aD q0] h = bO (stI h (fun t => t == 0) q0 y1 (y2 + y3)) (fun z => Run sc n_X5_perform 124 [aD p0, aD p1, aI x2, aI x3, aI x4, aI x5] none [] z) := by
  refine (s_go mt_X5_perform dX5_perform_122 rfl).trans ?_
  exact q_iastore mt_X5_perform dX5_perform_123
theorem e_X5_perform_146 (sc : SC) (p0 : Nat) (p1 : Nat) (x2 : Int32) (x3 : Int32) (x4 : Int32) (x5 : Int32) (q0 : Nat) (y1 : Int32) (y2 : Int32) (y3 : Int32) (h : AH) : Run sc n_X5_perform 146 [aD p0, aD p1, aI x2, aI x3, aI x4, aI x5] none [aI y3, aI y2, aI y1, aD q0] h = bO (stI h (fun t => t == 0) q0 y1 (y2 - y3)) (fun z => Run sc n_X5_perform 148 [aD p0, aD p1, aI x2, aI x3, aI x4, aI x5] none [] z) := by
  refine (s_go mt_X5_perform dX5_perform_146 rfl).trans ?_
  exact q_iastore mt_X5_perform dX5_perform_147
theorem e_X5_perform_170 (sc : SC) (p0 : Nat) (p1 : Nat) (x2 : Int32) (x3 : Int32) (x4 : Int32) (x5 : Int32) (h : AH) : Run sc n_X5_perform 170 [aD p0, aD p1, aI x2, aI x3, aI x4, aI x5] none [] h = Run sc n_X5_perform 223 [aD p0, aD p1, aI x2, aI x3, aI x4, aI x5] none [] h := by
  refine (s_go mt_X5_perform dX5_perform_170 rfl).trans ?_
  exact rfl
theorem e_X5_perform_192 (sc : SC) (p0 : Nat) (p1 : Nat) (x2 : Int32) (x3 : Int32) (x4 : Int32) (x5 : Int32) (h : AH) : Run sc n_X5_perform 192 [aD p0, aD p1, aI x2, aI x3, aI x4, aI x5] none [] h = Run sc n_X5_perform 223 [aD p0, aD p1, aI x2, aI x3, aI x4, aI x5] none [] h := by
  refine (s_go mt_X5_perform dX5_perform_192 rfl).trans ?_
  exact rfl
theorem e_X5_perform_210 (sc : SC) (p0 : Nat) (p1 : Nat) (x2 : Int32) (x3 : Int32) (x4 : Int32) (x5 : Int32) (h : AH) : Run sc n_X5_perform 210 [aD p0, aD p1, aI x2, aI x3, aI x4, aI x5] none [] h = bF (getF sc h (aD p0) 7 2) (fun z => Run sc n_X5_perform 215 [aD p0, aD p1, aI x2, aI x3, aI x4, aI x5] none [z, aD p0] h) := by
  refine (s_go mt_X5_perform dX5_perform_210 rfl).trans ?_
  refine (s_go mt_X5_perform dX5_perform_211 rfl).trans ?_
  exact q_getfield mt_X5_perform dX5_perform_212 rfl
theorem e_X5_perform_35 (sc : SC) (p0 : Nat) (p1 : Nat) (x2 : Int32) (x3 : Int32) (x4 : Int32) (x5 : Int32) (y0 : Int32) (h : AH) : Run sc n_X5_perform 35 [aD p0, aD p1, aI x2, aI x3, aI x4, aI x5] none [aI y0] h = Run sc n_X5_perform (if (y0).toInt < 1 ∨ 7 < (y0).toInt then 223 else ([76, 87, 103, 127, 151, 173, 195] : List Nat).getD ((y0).toInt - 1).toNat 0) [aD p0, aD p1, aI x2, aI x3, aI x4, aI x5] none [] h := by
  exact q_table (pc := 35) (T := [76, 87, 103, 127, 151, 173, 195]) mt_X5_perform dX5_perform_35 rfl (by decide +kernel)
theorem e_X5_perform_124 (sc : SC) (p0 : Nat) (p1 : Nat) (x2 : Int32) (x3 : Int32) (x4 : Int32) (x5 : Int32) (h : AH) : Run sc n_X5_perform 124 [aD p0, aD p1, aI x2, aI x3, aI x4, aI x5] none [] h = Run sc n_X5_perform 223 [aD p0, aD p1, aI x2, aI x3, aI x4, aI x5] none [] h := by
  refine (s_go mt_X5_perform dX5_perform_124 rfl).trans ?_
  exact rfl
theorem e_X5_perform_148 (sc : SC) (p0 : Nat) (p1 : Nat) (x2 : Int32) (x3 : Int32) (x4 : Int32) (x5 : Int32) (h : AH) : Run sc n_X5_perform 148 [aD p0, aD p1, aI x2, aI x3, aI x4, aI x5] none [] h = Run sc n_X5_perform 223 [aD p0, aD p1, aI x2, aI x3, aI x4, aI x5] none [] h := by
  refine (s_go mt_X5_perform dX5_perform_148 rfl).trans ?_
  exact rfl
theorem e_X5_perform_215 (sc : SC) (p0 : Nat) (p1 : Nat) (x2 : Int32) (x3 : Int32) (x4 : Int32) (x5 : Int32) (q0 : Nat) (y1 : Int32) (h : AH) : Run sc n_X5_perform 215 [aD p0, aD p1, aI x2, aI x3, aI x4, aI x5] none [aI y1, aD q0] h = bO (putF h q0 7 2 0 (aI (y1 + (nI 1)))) (fun z => Run sc n_X5_perform 220 [aD p0, aD p1, aI x2, aI x3, aI x4, aI x5] none [] z) := by
  refine (s_go mt_X5_perform dX5_perform_215 rfl).trans ?_
  refine (s_go mt_X5_perform dX5_perform_216 rfl).trans ?_
  exact q_putfield mt_X5_perform dX5_perform_217 rfl rfl rfl rfl
theorem e_X5_perform_220 (sc : SC) (p0 : Nat) (p1 : Nat) (x2 : Int32) (x3 : Int32) (x4 : Int32) (x5 : Int32) (h : AH) : Run sc n_X5_perform 220 [aD p0, aD p1, aI x2, aI x3, aI x4, aI x5] none [] h = Run sc n_X5_perform 223 [aD p0, aD p1, aI x2, aI x3, aI x4, aI x5] none [] h := by
  refine (s_go mt_X5_perform dX5_perform_220 rfl).trans ?_
  exact rfl
/-! BranchSlotFiller$Machine.executes(LBranchSlotFiller$Program;Z[II)Z -/
theorem e_X5_executes_0 (sc : SC) (p0 : Nat) (p1 : Nat) (x2 : Int32) (p3 : Nat) (x4 : Int32) (v5 : AV) (v6 : AV) (v7 : AV) (v8 : AV) (v9 : AV) (v10 : AV) (h : AH) : Run sc n_X5_executes 0 [aD p0, aD p1, aI x2, aD p3, aI x4, v5, v6, v7, v8, v9, v10] none [] h = bF (getF sc h (aD p0) 7 0) (fun z => Run sc n_X5_executes 6 [aD p0, aD p1, aI x2, aD p3, aI x4, v5, v6, v7, v8, v9, v10] none [z, aI (nI 0), aD p3] h) := by
  refine (s_go mt_X5_executes dX5_executes_0 rfl).trans ?_
  refine (s_go mt_X5_executes dX5_executes_1 rfl).trans ?_
  refine (s_go mt_X5_executes dX5_executes_2 rfl).trans ?_
  exact q_getfield mt_X5_executes dX5_executes_3 rfl
theorem e_X5_executes_31 (sc : SC) (p0 : Nat) (p1 : Nat) (x2 : Int32) (p3 : Nat) (x4 : Int32) (x5 : Int32) (x6 : Int32) (v7 : AV) (v8 : AV) (v9 : AV) (v10 : AV) (h : AH) : Run sc n_X5_executes 31 [aD p0, aD p1, aI x2, aD p3, aI x4, aI x5, aI x6, v7, v8, v9, v10] none [] h = bF (getF sc h (aD p0) 7 3) (fun z => Run sc n_X5_executes 35 [aD p0, aD p1, aI x2, aD p3, aI x4, aI x5, aI x6, v7, v8, v9, v10] none [z] h) := by
  refine (s_go mt_X5_executes dX5_executes_31 rfl).trans ?_
  exact q_getfield mt_X5_executes dX5_executes_32 rfl
theorem e_X5_executes_40 (sc : SC) (p0 : Nat) (p1 : Nat) (x2 : Int32) (p3 : Nat) (x4 : Int32) (x5 : Int32) (x6 : Int32) (v7 : AV) (v8 : AV) (v9 : AV) (v10 : AV) (h : AH) : Run sc n_X5_executes 40 [aD p0, aD p1, aI x2, aD p3, aI x4, aI x5, aI x6, v7, v8, v9, v10] none [] h = bF (getF sc h (aD p1) 8 1) (fun z => Run sc n_X5_executes 46 [aD p0, aD p1, aI x2, aD p3, aI x4, aI x5, aI x6, v7, v8, v9, v10] none [z, aI x5] h) := by
  refine (s_go mt_X5_executes dX5_executes_40 rfl).trans ?_
  refine (s_go mt_X5_executes dX5_executes_42 rfl).trans ?_
  exact q_getfield mt_X5_executes dX5_executes_43 rfl
theorem e_X5_executes_49 (sc : SC) (p0 : Nat) (p1 : Nat) (x2 : Int32) (p3 : Nat) (x4 : Int32) (x5 : Int32) (x6 : Int32) (v7 : AV) (v8 : AV) (v9 : AV) (v10 : AV) (h : AH) : Run sc n_X5_executes 49 [aD p0, aD p1, aI x2, aD p3, aI x4, aI x5, aI x6, v7, v8, v9, v10] none [] h = bI (rOK sc h (aD p1) 8 = true) (bC (Call sc n_X6_kind [aD p1, aI x5] h) (fun v z => Run sc n_X5_executes 55 [aD p0, aD p1, aI x2, aD p3, aI x4, aI x5, aI x6, v7, v8, v9, v10] none (v.toList ++ []) z) (fun E z => some (.inr E, z))) := by
  refine (s_go mt_X5_executes dX5_executes_49 rfl).trans ?_
  refine (s_go mt_X5_executes dX5_executes_50 rfl).trans ?_
  exact q_cV mt_X5_executes dX5_executes_52 rfl mt_X6_kind rfl rfl rfl
theorem e_X5_executes_65 (sc : SC) (p0 : Nat) (p1 : Nat) (x2 : Int32) (p3 : Nat) (x4 : Int32) (x5 : Int32) (x6 : Int32) (c7 : Nat) (v8 : AV) (v9 : AV) (v10 : AV) (h : AH) : Run sc n_X5_executes 65 [aD p0, aD p1, aI x2, aD p3, aI x4, aI x5, aI x6, aC c7, v8, v9, v10] none [] h = bI (rOK sc h (aD p0) 7 = true) (bC (Call sc n_X5_conditionHolds [aD p0, aD p1, aI x5] h) (fun v z => Run sc n_X5_executes 72 [aD p0, aD p1, aI x2, aD p3, aI x4, aI x5, aI x6, aC c7, v8, v9, v10] none (v.toList ++ []) z) (fun E z => some (.inr E, z))) := by
  refine (s_go mt_X5_executes dX5_executes_65 rfl).trans ?_
  refine (s_go mt_X5_executes dX5_executes_66 rfl).trans ?_
  refine (s_go mt_X5_executes dX5_executes_67 rfl).trans ?_
  exact q_cV mt_X5_executes dX5_executes_69 rfl mt_X5_conditionHolds rfl rfl rfl
theorem e_X5_executes_79 (sc : SC) (p0 : Nat) (p1 : Nat) (x2 : Int32) (p3 : Nat) (x4 : Int32) (x5 : Int32) (x6 : Int32) (c7 : Nat) (x8 : Int32) (v9 : AV) (v10 : AV) (h : AH) : Run sc n_X5_executes 79 [aD p0, aD p1, aI x2, aD p3, aI x4, aI x5, aI x6, aC c7, aI x8, v9, v10] none [] h = bI (rOK sc h (aD p1) 8 = true) (bC (Call sc n_X6_target [aD p1, aI x5] h) (fun v z => Run sc n_X5_executes 85 [aD p0, aD p1, aI x2, aD p3, aI x4, aI x5, aI x6, aC c7, aI x8, v9, v10] none (v.toList ++ []) z) (fun E z => some (.inr E, z))) := by
  refine (s_go mt_X5_executes dX5_executes_79 rfl).trans ?_
  refine (s_go mt_X5_executes dX5_executes_80 rfl).trans ?_
  exact q_cV mt_X5_executes dX5_executes_82 rfl mt_X6_target rfl rfl rfl
theorem e_X5_executes_88 (sc : SC) (p0 : Nat) (p1 : Nat) (x2 : Int32) (p3 : Nat) (x4 : Int32) (x5 : Int32) (x6 : Int32) (c7 : Nat) (x8 : Int32) (v9 : AV) (v10 : AV) (h : AH) : Run sc n_X5_executes 88 [aD p0, aD p1, aI x2, aD p3, aI x4, aI x5, aI x6, aC c7, aI x8, v9, v10] none [] h = Run sc n_X5_executes (if x2 = 0 then 98 else 94) [aD p0, aD p1, aI x2, aD p3, aI x4, aI x5, aI x6, aC c7, aI x8, v9, v10] none [aI x5] h := by
  refine (s_go mt_X5_executes dX5_executes_88 rfl).trans ?_
  refine (s_go mt_X5_executes dX5_executes_90 rfl).trans ?_
  exact q_if mt_X5_executes dX5_executes_91 (fun _ _ _ _ => rfl) rfl
theorem e_X5_executes_94 (sc : SC) (p0 : Nat) (p1 : Nat) (x2 : Int32) (p3 : Nat) (x4 : Int32) (x5 : Int32) (x6 : Int32) (c7 : Nat) (x8 : Int32) (v9 : AV) (v10 : AV) (y0 : Int32) (h : AH) : Run sc n_X5_executes 94 [aD p0, aD p1, aI x2, aD p3, aI x4, aI x5, aI x6, aC c7, aI x8, v9, v10] none [aI y0] h = Run sc n_X5_executes 99 [aD p0, aD p1, aI x2, aD p3, aI x4, aI x5, aI x6, aC c7, aI x8, v9, v10] none [aI (nI 2), aI y0] h := by
  refine (s_go mt_X5_executes dX5_executes_94 rfl).trans ?_
  refine (s_go mt_X5_executes dX5_executes_95 rfl).trans ?_
  exact rfl
theorem e_X5_executes_98 (sc : SC) (p0 : Nat) (p1 : Nat) (x2 : Int32) (p3 : Nat) (x4 : Int32) (x5 : Int32) (x6 : Int32) (c7 : Nat) (x8 : Int32) (v9 : AV) (v10 : AV) (y0 : Int32) (h : AH) : Run sc n_X5_executes 98 [aD p0, aD p1, aI x2, aD p3, aI x4, aI x5, aI x6, aC c7, aI x8, v9, v10] none [aI y0] h = Run sc n_X5_executes 99 [aD p0, aD p1, aI x2, aD p3, aI x4, aI x5, aI x6, aC c7, aI x8, v9, v10] none [aI (nI 1), aI y0] h := by
  refine (s_go mt_X5_executes dX5_executes_98 rfl).trans ?_
  exact rfl
theorem e_X5_executes_99 (sc : SC) (p0 : Nat) (p1 : Nat) (x2 : Int32) (p3 : Nat) (x4 : Int32) (x5 : Int32) (x6 : Int32) (c7 : Nat) (x8 : Int32) (v9 : AV) (v10 : AV) (y0 : Int32) (y1 : Int32) (h : AH) : Run sc n_X5_executes 99 [aD p0, aD p1, aI x2, aD p3, aI x4, aI x5, aI x6, aC c7, aI x8, v9, v10] none [aI y1, aI y0] h = Run sc n_X5_executes 100 [aD p0, aD p1, aI x2, aD p3, aI x4, aI x5, aI x6, aC c7, aI x8, v9, v10] none [aI (y0 + y1)] h := by
  refine (s_go mt_X5_executes dX5_executes_99 rfl).trans ?_
  exact rfl
theorem e_X5_executes_100 (sc : SC) (p0 : Nat) (p1 : Nat) (x2 : Int32) (p3 : Nat) (x4 : Int32) (x5 : Int32) (x6 : Int32) (c7 : Nat) (x8 : Int32) (v9 : AV) (v10 : AV) (y0 : Int32) (h : AH) : Run sc n_X5_executes 100 [aD p0, aD p1, aI x2, aD p3, aI x4, aI x5, aI x6, aC c7, aI x8, v9, v10] none [aI y0] h = Run sc n_X5_executes (if x2 = 0 then 124 else 106) [aD p0, aD p1, aI x2, aD p3, aI x4, aI x5, aI x6, aC c7, aI x8, aI y0, v10] none [] h := by
  refine (s_go mt_X5_executes dX5_executes_100 rfl).trans ?_
  refine (s_go mt_X5_executes dX5_executes_102 rfl).trans ?_
  exact q_if mt_X5_executes dX5_executes_103 (fun _ _ _ _ => rfl) rfl
theorem e_X5_executes_106 (sc : SC) (p0 : Nat) (p1 : Nat) (x2 : Int32) (p3 : Nat) (x4 : Int32) (x5 : Int32) (x6 : Int32) (c7 : Nat) (x8 : Int32) (x9 : Int32) (v10 : AV) (h : AH) : Run sc n_X5_executes 106 [aD p0, aD p1, aI x2, aD p3, aI x4, aI x5, aI x6, aC c7, aI x8, aI x9, v10] none [] h = Run sc n_X5_executes (if ¬ x8 = 0 then 120 else 111) [aD p0, aD p1, aI x2, aD p3, aI x4, aI x5, aI x6, aC c7, aI x8, aI x9, v10] none [] h := by
  refine (s_go mt_X5_executes dX5_executes_106 rfl).trans ?_
  exact q_if mt_X5_executes dX5_executes_108 (fun _ _ _ _ => rfl) rfl
theorem e_X5_executes_111 (sc : SC) (p0 : Nat) (p1 : Nat) (x2 : Int32) (p3 : Nat) (x4 : Int32) (x5 : Int32) (x6 : Int32) (c7 : Nat) (x8 : Int32) (x9 : Int32) (v10 : AV) (h : AH) : Run sc n_X5_executes 111 [aD p0, aD p1, aI x2, aD p3, aI x4, aI x5, aI x6, aC c7, aI x8, aI x9, v10] none [] h = bI (rOK sc h (aD p1) 8 = true) (bC (Call sc n_X6_isAnnulling [aD p1, aI x5] h) (fun v z => Run sc n_X5_executes 117 [aD p0, aD p1, aI x2, aD p3, aI x4, aI x5, aI x6, aC c7, aI x8, aI x9, v10] none (v.toList ++ []) z) (fun E z => some (.inr E, z))) := by
  refine (s_go mt_X5_executes dX5_executes_111 rfl).trans ?_
  refine (s_go mt_X5_executes dX5_executes_112 rfl).trans ?_
  exact q_cV mt_X5_executes dX5_executes_114 rfl mt_X6_isAnnulling rfl rfl rfl
theorem e_X5_executes_120 (sc : SC) (p0 : Nat) (p1 : Nat) (x2 : Int32) (p3 : Nat) (x4 : Int32) (x5 : Int32) (x6 : Int32) (c7 : Nat) (x8 : Int32) (x9 : Int32) (v10 : AV) (h : AH) : Run sc n_X5_executes 120 [aD p0, aD p1, aI x2, aD p3, aI x4, aI x5, aI x6, aC c7, aI x8, aI x9, v10] none [] h = Run sc n_X5_executes 125 [aD p0, aD p1, aI x2, aD p3, aI x4, aI x5, aI x6, aC c7, aI x8, aI x9, v10] none [aI (nI 1)] h := by
  refine (s_go mt_X5_executes dX5_executes_120 rfl).trans ?_
  refine (s_go mt_X5_executes dX5_executes_121 rfl).trans ?_
  exact rfl
theorem e_X5_executes_124 (sc : SC) (p0 : Nat) (p1 : Nat) (x2 : Int32) (p3 : Nat) (x4 : Int32) (x5 : Int32) (x6 : Int32) (c7 : Nat) (x8 : Int32) (x9 : Int32) (v10 : AV) (h : AH) : Run sc n_X5_executes 124 [aD p0, aD p1, aI x2, aD p3, aI x4, aI x5, aI x6, aC c7, aI x8, aI x9, v10] none [] h = Run sc n_X5_executes 125 [aD p0, aD p1, aI x2, aD p3, aI x4, aI x5, aI x6, aC c7, aI x8, aI x9, v10] none [aI (nI 0)] h := by
  refine (s_go mt_X5_executes dX5_executes_124 rfl).trans ?_
  exact rfl
theorem e_X5_executes_125 (sc : SC) (p0 : Nat) (p1 : Nat) (x2 : Int32) (p3 : Nat) (x4 : Int32) (x5 : Int32) (x6 : Int32) (c7 : Nat) (x8 : Int32) (x9 : Int32) (v10 : AV) (y0 : Int32) (h : AH) : Run sc n_X5_executes 125 [aD p0, aD p1, aI x2, aD p3, aI x4, aI x5, aI x6, aC c7, aI x8, aI x9, v10] none [aI y0] h = Run sc n_X5_executes (if y0 = 0 then 137 else 132) [aD p0, aD p1, aI x2, aD p3, aI x4, aI x5, aI x6, aC c7, aI x8, aI x9, aI y0] none [] h := by
  refine (s_go mt_X5_executes dX5_executes_125 rfl).trans ?_
  refine (s_go mt_X5_executes dX5_executes_127 rfl).trans ?_
  exact q_if mt_X5_executes dX5_executes_129 (fun _ _ _ _ => rfl) rfl
theorem e_X5_executes_132 (sc : SC) (p0 : Nat) (p1 : Nat) (x2 : Int32) (p3 : Nat) (x4 : Int32) (x5 : Int32) (x6 : Int32) (c7 : Nat) (x8 : Int32) (x9 : Int32) (x10 : Int32) (h : AH) : Run sc n_X5_executes 132 [aD p0, aD p1, aI x2, aD p3, aI x4, aI x5, aI x6, aC c7, aI x8, aI x9, aI x10] none [] h = Run sc n_X5_executes 138 [aD p0, aD p1, aI x2, aD p3, aI x4, aI x5, aI x6, aC c7, aI x8, aI x9, aI x10] none [aI x9] h := by
  refine (s_go mt_X5_executes dX5_executes_132 rfl).trans ?_
  refine (s_go mt_X5_executes dX5_executes_134 rfl).trans ?_
  exact rfl
theorem e_X5_executes_137 (sc : SC) (p0 : Nat) (p1 : Nat) (x2 : Int32) (p3 : Nat) (x4 : Int32) (x5 : Int32) (x6 : Int32) (c7 : Nat) (x8 : Int32) (x9 : Int32) (x10 : Int32) (h : AH) : Run sc n_X5_executes 137 [aD p0, aD p1, aI x2, aD p3, aI x4, aI x5, aI x6, aC c7, aI x8, aI x9, aI x10] none [] h = Run sc n_X5_executes 138 [aD p0, aD p1, aI x2, aD p3, aI x4, aI x5, aI x6, aC c7, aI x8, aI x9, aI x10] none [aI (-1)] h := by
  refine (s_go mt_X5_executes dX5_executes_137 rfl).trans ?_
  exact rfl
theorem e_X5_executes_138 (sc : SC) (p0 : Nat) (p1 : Nat) (x2 : Int32) (p3 : Nat) (x4 : Int32) (x5 : Int32) (x6 : Int32) (c7 : Nat) (x8 : Int32) (x9 : Int32) (x10 : Int32) (y0 : Int32) (h : AH) : Run sc n_X5_executes 138 [aD p0, aD p1, aI x2, aD p3, aI x4, aI x5, aI x6, aC c7, aI x8, aI x9, aI x10] none [aI y0] h = Run sc n_X5_executes (if x10 = 0 then 152 else 145) [aD p0, aD p1, aI x2, aD p3, aI x4, aI x5, aI y0, aC c7, aI x8, aI x9, aI x10] none [] h := by
  refine (s_go mt_X5_executes dX5_executes_138 rfl).trans ?_
  refine (s_go mt_X5_executes dX5_executes_140 rfl).trans ?_
  exact q_if mt_X5_executes dX5_executes_142 (fun _ _ _ _ => rfl) rfl
theorem e_X5_executes_145 (sc : SC) (p0 : Nat) (p1 : Nat) (x2 : Int32) (p3 : Nat) (x4 : Int32) (x5 : Int32) (x6 : Int32) (c7 : Nat) (x8 : Int32) (x9 : Int32) (x10 : Int32) (h : AH) : Run sc n_X5_executes 145 [aD p0, aD p1, aI x2, aD p3, aI x4, aI x5, aI x6, aC c7, aI x8, aI x9, aI x10] none [] h = Run sc n_X5_executes 154 [aD p0, aD p1, aI x2, aD p3, aI x4, aI x5, aI x6, aC c7, aI x8, aI x9, aI x10] none [aI (x5 + (nI 1))] h := by
  refine (s_go mt_X5_executes dX5_executes_145 rfl).trans ?_
  refine (s_go mt_X5_executes dX5_executes_147 rfl).trans ?_
  refine (s_go mt_X5_executes dX5_executes_148 rfl).trans ?_
  refine (s_go mt_X5_executes dX5_executes_149 rfl).trans ?_
  exact rfl
theorem e_X5_executes_152 (sc : SC) (p0 : Nat) (p1 : Nat) (x2 : Int32) (p3 : Nat) (x4 : Int32) (x5 : Int32) (x6 : Int32) (c7 : Nat) (x8 : Int32) (x9 : Int32) (x10 : Int32) (h : AH) : Run sc n_X5_executes 152 [aD p0, aD p1, aI x2, aD p3, aI x4, aI x5, aI x6, aC c7, aI x8, aI x9, aI x10] none [] h = Run sc n_X5_executes 154 [aD p0, aD p1, aI x2, aD p3, aI x4, aI x5, aI x6, aC c7, aI x8, aI x9, aI x10] none [aI x9] h := by
  refine (s_go mt_X5_executes dX5_executes_152 rfl).trans ?_
  exact rfl
theorem e_X5_executes_154 (sc : SC) (p0 : Nat) (p1 : Nat) (x2 : Int32) (p3 : Nat) (x4 : Int32) (x5 : Int32) (x6 : Int32) (c7 : Nat) (x8 : Int32) (x9 : Int32) (x10 : Int32) (y0 : Int32) (h : AH) : Run sc n_X5_executes 154 [aD p0, aD p1, aI x2, aD p3, aI x4, aI x5, aI x6, aC c7, aI x8, aI x9, aI x10] none [aI y0] h = Run sc n_X5_executes 203 [aD p0, aD p1, aI x2, aD p3, aI x4, aI y0, aI x6, aC c7, aI x8, aI x9, aI x10] none [] h := by
  refine (s_go mt_X5_executes dX5_executes_154 rfl).trans ?_
  refine (s_go mt_X5_executes dX5_executes_156 rfl).trans ?_
  exact rfl
theorem e_X5_executes_159 (sc : SC) (p0 : Nat) (p1 : Nat) (x2 : Int32) (p3 : Nat) (x4 : Int32) (x5 : Int32) (x6 : Int32) (c7 : Nat) (v8 : AV) (v9 : AV) (v10 : AV) (h : AH) : Run sc n_X5_executes 159 [aD p0, aD p1, aI x2, aD p3, aI x4, aI x5, aI x6, aC c7, v8, v9, v10] none [] h = bI (1 ≤ c7 ∧ c7 < 13 ∧ 1 ≤ 12 ∧ 12 < 13) (Run sc n_X5_executes (if ¬ c7 = 12 then 176 else 167) [aD p0, aD p1, aI x2, aD p3, aI x4, aI x5, aI x6, aC c7, v8, v9, v10] none [] h) := by
  refine (s_go mt_X5_executes dX5_executes_159 rfl).trans ?_
  refine (s_go mt_X5_executes dX5_executes_161 rfl).trans ?_
  exact q_acmpne mt_X5_executes dX5_executes_164 rfl
theorem e_X5_executes_167 (sc : SC) (p0 : Nat) (p1 : Nat) (x2 : Int32) (p3 : Nat) (x4 : Int32) (x5 : Int32) (x6 : Int32) (c7 : Nat) (v8 : AV) (v9 : AV) (v10 : AV) (h : AH) : Run sc n_X5_executes 167 [aD p0, aD p1, aI x2, aD p3, aI x4, aI x5, aI x6, aC c7, v8, v9, v10] none [] h = bF (getF sc h (aD p1) 8 1) (fun z => Run sc n_X5_executes 171 [aD p0, aD p1, aI x2, aD p3, aI x4, aI x5, aI x6, aC c7, v8, v9, v10] none [z] h) := by
  refine (s_go mt_X5_executes dX5_executes_167 rfl).trans ?_
  exact q_getfield mt_X5_executes dX5_executes_168 rfl
theorem e_X5_executes_176 (sc : SC) (p0 : Nat) (p1 : Nat) (x2 : Int32) (p3 : Nat) (x4 : Int32) (x5 : Int32) (x6 : Int32) (c7 : Nat) (v8 : AV) (v9 : AV) (v10 : AV) (h : AH) : Run sc n_X5_executes 176 [aD p0, aD p1, aI x2, aD p3, aI x4, aI x5, aI x6, aC c7, v8, v9, v10] none [] h = bI (rOK sc h (aD p0) 7 = true) (bC (Call sc n_X5_perform [aD p0, aD p1, aI x5] h) (fun v z => Run sc n_X5_executes 183 [aD p0, aD p1, aI x2, aD p3, aI x4, aI x5, aI x6, aC c7, v8, v9, v10] none (v.toList ++ []) z) (fun E z => some (.inr E, z))) := by
  refine (s_go mt_X5_executes dX5_executes_176 rfl).trans ?_
  refine (s_go mt_X5_executes dX5_executes_177 rfl).trans ?_
  refine (s_go mt_X5_executes dX5_executes_178 rfl).trans ?_
  exact q_cV mt_X5_executes dX5_executes_180 rfl mt_X5_perform rfl rfl rfl
theorem e_X5_executes_189 (sc : SC) (p0 : Nat) (p1 : Nat) (x2 : Int32) (p3 : Nat) (x4 : Int32) (x5 : Int32) (x6 : Int32) (c7 : Nat) (v8 : AV) (v9 : AV) (v10 : AV) (h : AH) : Run sc n_X5_executes 189 [aD p0, aD p1, aI x2, aD p3, aI x4, aI x5, aI x6, aC c7, v8, v9, v10] none [] h = Run sc n_X5_executes 198 [aD p0, aD p1, aI x2, aD p3, aI x4, aI x5, aI x6, aC c7, v8, v9, v10] none [aI (x5 + (nI 1))] h := by
  refine (s_go mt_X5_executes dX5_executes_189 rfl).trans ?_
  refine (s_go mt_X5_executes dX5_executes_191 rfl).trans ?_
  refine (s_go mt_X5_executes dX5_executes_192 rfl).trans ?_
  refine (s_go mt_X5_executes dX5_executes_193 rfl).trans ?_
  exact rfl
theorem e_X5_executes_196 (sc : SC) (p0 : Nat) (p1 : Nat) (x2 : Int32) (p3 : Nat) (x4 : Int32) (x5 : Int32) (x6 : Int32) (c7 : Nat) (v8 : AV) (v9 : AV) (v10 : AV) (h : AH) : Run sc n_X5_executes 196 [aD p0, aD p1, aI x2, aD p3, aI x4, aI x5, aI x6, aC c7, v8, v9, v10] none [] h = Run sc n_X5_executes 198 [aD p0, aD p1, aI x2, aD p3, aI x4, aI x5, aI x6, aC c7, v8, v9, v10] none [aI x6] h := by
  refine (s_go mt_X5_executes dX5_executes_196 rfl).trans ?_
  exact rfl
theorem e_X5_executes_198 (sc : SC) (p0 : Nat) (p1 : Nat) (x2 : Int32) (p3 : Nat) (x4 : Int32) (x5 : Int32) (x6 : Int32) (c7 : Nat) (v8 : AV) (v9 : AV) (v10 : AV) (y0 : Int32) (h : AH) : Run sc n_X5_executes 198 [aD p0, aD p1, aI x2, aD p3, aI x4, aI x5, aI x6, aC c7, v8, v9, v10] none [aI y0] h = Run sc n_X5_executes 203 [aD p0, aD p1, aI x2, aD p3, aI x4, aI y0, aI (-1), aC c7, v8, v9, v10] none [] h := by
  refine (s_go mt_X5_executes dX5_executes_198 rfl).trans ?_
  refine (s_go mt_X5_executes dX5_executes_200 rfl).trans ?_
  refine (s_go mt_X5_executes dX5_executes_201 rfl).trans ?_
  exact rfl
theorem e_X5_executes_203 (sc : SC) (p0 : Nat) (p1 : Nat) (x2 : Int32) (p3 : Nat) (x4 : Int32) (x5 : Int32) (x6 : Int32) (c7 : Nat) (v8 : AV) (v9 : AV) (v10 : AV) (h : AH) : Run sc n_X5_executes 203 [aD p0, aD p1, aI x2, aD p3, aI x4, aI x5, aI x6, aC c7, v8, v9, v10] none [] h = bF (getF sc h (aD p0) 7 3) (fun z => Run sc n_X5_executes 208 [aD p0, aD p1, aI x2, aD p3, aI x4, aI x5, aI x6, aC c7, v8, v9, v10] none [z, aD p0] h) := by
  refine (s_go mt_X5_executes dX5_executes_203 rfl).trans ?_
  refine (s_go mt_X5_executes dX5_executes_204 rfl).trans ?_
  exact q_getfield mt_X5_executes dX5_executes_205 rfl
theorem e_X5_executes_216 (sc : SC) (p0 : Nat) (p1 : Nat) (x2 : Int32) (p3 : Nat) (x4 : Int32) (x5 : Int32) (x6 : Int32) (v7 : AV) (v8 : AV) (v9 : AV) (v10 : AV) (h : AH) : Run sc n_X5_executes 216 [aD p0, aD p1, aI x2, aD p3, aI x4, aI x5, aI x6, v7, v8, v9, v10] none [] h = bF (getF sc h (aD p1) 8 1) (fun z => Run sc n_X5_executes 222 [aD p0, aD p1, aI x2, aD p3, aI x4, aI x5, aI x6, v7, v8, v9, v10] none [z, aI x5] h) := by
  refine (s_go mt_X5_executes dX5_executes_216 rfl).trans ?_
  refine (s_go mt_X5_executes dX5_executes_218 rfl).trans ?_
  exact q_getfield mt_X5_executes dX5_executes_219 rfl
theorem e_X5_executes_225 (sc : SC) (p0 : Nat) (p1 : Nat) (x2 : Int32) (p3 : Nat) (x4 : Int32) (x5 : Int32) (x6 : Int32) (v7 : AV) (v8 : AV) (v9 : AV) (v10 : AV) (h : AH) : Run sc n_X5_executes 225 [aD p0, aD p1, aI x2, aD p3, aI x4, aI x5, aI x6, v7, v8, v9, v10] none [] h = Run sc n_X5_executes 230 [aD p0, aD p1, aI x2, aD p3, aI x4, aI x5, aI x6, v7, v8, v9, v10] none [aI (nI 1)] h := by
  refine (s_go mt_X5_executes dX5_executes_225 rfl).trans ?_
  refine (s_go mt_X5_executes dX5_executes_226 rfl).trans ?_
  exact rfl
theorem e_X5_executes_229 (sc : SC) (p0 : Nat) (p1 : Nat) (x2 : Int32) (p3 : Nat) (x4 : Int32) (x5 : Int32) (x6 : Int32) (v7 : AV) (v8 : AV) (v9 : AV) (v10 : AV) (h : AH) : Run sc n_X5_executes 229 [aD p0, aD p1, aI x2, aD p3, aI x4, aI x5, aI x6, v7, v8, v9, v10] none [] h = Run sc n_X5_executes 230 [aD p0, aD p1, aI x2, aD p3, aI x4, aI x5, aI x6, v7, v8, v9, v10] none [aI (nI 0)] h := by
  refine (s_go mt_X5_executes dX5_executes_229 rfl).trans ?_
  exact rfl
theorem e_X5_executes_230 (sc : SC) (p0 : Nat) (p1 : Nat) (x2 : Int32) (p3 : Nat) (x4 : Int32) (x5 : Int32) (x6 : Int32) (v7 : AV) (v8 : AV) (v9 : AV) (v10 : AV) (y0 : Int32) (h : AH) : Run sc n_X5_executes 230 [aD p0, aD p1, aI x2, aD p3, aI x4, aI x5, aI x6, v7, v8, v9, v10] none [aI y0] h = bI (retK (some FieldType.boolean) y0 = true) (some (.inl (some (aI y0)), h)) := by
  exact q_iret mt_X5_executes dX5_executes_230
theorem e_X5_executes_6 (sc : SC) (p0 : Nat) (p1 : Nat) (x2 : Int32) (p3 : Nat) (x4 : Int32) (v5 : AV) (v6 : AV) (v7 : AV) (v8 : AV) (v9 : AV) (v10 : AV) (q0 : Nat) (y1 : Int32) (q2 : Nat) (h : AH) : Run sc n_X5_executes 6 [aD p0, aD p1, aI x2, aD p3, aI x4, v5, v6, v7, v8, v9, v10] none [aD q2, aI y1, aD q0] h = bF (getF sc h (aD p0) 7 0) (fun z => Run sc n_X5_executes 11 [aD p0, aD p1, aI x2, aD p3, aI x4, v5, v6, v7, v8, v9, v10] none [z, aI (nI 0), aD q2, aI y1, aD q0] h) := by
  refine (s_go mt_X5_executes dX5_executes_6 rfl).trans ?_
  refine (s_go mt_X5_executes dX5_executes_7 rfl).trans ?_
  exact q_getfield mt_X5_executes dX5_executes_8 rfl
theorem e_X5_executes_35 (sc : SC) (p0 : Nat) (p1 : Nat) (x2 : Int32) (p3 : Nat) (x4 : Int32) (x5 : Int32) (x6 : Int32) (v7 : AV) (v8 : AV) (v9 : AV) (v10 : AV) (y0 : Int32) (h : AH) : Run sc n_X5_executes 35 [aD p0, aD p1, aI x2, aD p3, aI x4, aI x5, aI x6, v7, v8, v9, v10] none [aI y0] h = Run sc n_X5_executes (if x4 ≤ y0 then 216 else 40) [aD p0, aD p1, aI x2, aD p3, aI x4, aI x5, aI x6, v7, v8, v9, v10] none [] h := by
  refine (s_go mt_X5_executes dX5_executes_35 rfl).trans ?_
  exact q_icmp mt_X5_executes dX5_executes_37 (fun _ _ _ _ => rfl) rfl
theorem e_X5_executes_46 (sc : SC) (p0 : Nat) (p1 : Nat) (x2 : Int32) (p3 : Nat) (x4 : Int32) (x5 : Int32) (x6 : Int32) (v7 : AV) (v8 : AV) (v9 : AV) (v10 : AV) (y0 : Int32) (y1 : Int32) (h : AH) : Run sc n_X5_executes 46 [aD p0, aD p1, aI x2, aD p3, aI x4, aI x5, aI x6, v7, v8, v9, v10] none [aI y1, aI y0] h = Run sc n_X5_executes (if y1 ≤ y0 then 216 else 49) [aD p0, aD p1, aI x2, aD p3, aI x4, aI x5, aI x6, v7, v8, v9, v10] none [] h := by
  exact q_icmp mt_X5_executes dX5_executes_46 (fun _ _ _ _ => rfl) rfl
theorem e_X5_executes_55 (sc : SC) (p0 : Nat) (p1 : Nat) (x2 : Int32) (p3 : Nat) (x4 : Int32) (x5 : Int32) (x6 : Int32) (v7 : AV) (v8 : AV) (v9 : AV) (v10 : AV) (d0 : Nat) (h : AH) : Run sc n_X5_executes 55 [aD p0, aD p1, aI x2, aD p3, aI x4, aI x5, aI x6, v7, v8, v9, v10] none [aC d0] h = bF (getF sc h (aC d0) 100 6) (fun z => Run sc n_X5_executes 62 [aD p0, aD p1, aI x2, aD p3, aI x4, aI x5, aI x6, aC d0, v8, v9, v10] none [z] h) := by
  refine (s_go mt_X5_executes dX5_executes_55 rfl).trans ?_
  refine (s_go mt_X5_executes dX5_executes_57 rfl).trans ?_
  exact q_getfield mt_X5_executes dX5_executes_59 rfl
theorem e_X5_executes_72 (sc : SC) (p0 : Nat) (p1 : Nat) (x2 : Int32) (p3 : Nat) (x4 : Int32) (x5 : Int32) (x6 : Int32) (c7 : Nat) (v8 : AV) (v9 : AV) (v10 : AV) (y0 : Int32) (h : AH) : Run sc n_X5_executes 72 [aD p0, aD p1, aI x2, aD p3, aI x4, aI x5, aI x6, aC c7, v8, v9, v10] none [aI y0] h = Run sc n_X5_executes (if y0 = 0 then 88 else 79) [aD p0, aD p1, aI x2, aD p3, aI x4, aI x5, aI x6, aC c7, aI y0, v9, v10] none [] h := by
  refine (s_go mt_X5_executes dX5_executes_72 rfl).trans ?_
  refine (s_go mt_X5_executes dX5_executes_74 rfl).trans ?_
  exact q_if mt_X5_executes dX5_executes_76 (fun _ _ _ _ => rfl) rfl
theorem e_X5_executes_85 (sc : SC) (p0 : Nat) (p1 : Nat) (x2 : Int32) (p3 : Nat) (x4 : Int32) (x5 : Int32) (x6 : Int32) (c7 : Nat) (x8 : Int32) (v9 : AV) (v10 : AV) (y0 : Int32) (h : AH) : Run sc n_X5_executes 85 [aD p0, aD p1, aI x2, aD p3, aI x4, aI x5, aI x6, aC c7, aI x8, v9, v10] none [aI y0] h = Run sc n_X5_executes 100 [aD p0, aD p1, aI x2, aD p3, aI x4, aI x5, aI x6, aC c7, aI x8, v9, v10] none [aI y0] h := by
  refine (s_go mt_X5_executes dX5_executes_85 rfl).trans ?_
  exact rfl
theorem e_X5_executes_117 (sc : SC) (p0 : Nat) (p1 : Nat) (x2 : Int32) (p3 : Nat) (x4 : Int32) (x5 : Int32) (x6 : Int32) (c7 : Nat) (x8 : Int32) (x9 : Int32) (v10 : AV) (y0 : Int32) (h : AH) : Run sc n_X5_executes 117 [aD p0, aD p1, aI x2, aD p3, aI x4, aI x5, aI x6, aC c7, aI x8, aI x9, v10] none [aI y0] h = Run sc n_X5_executes (if ¬ y0 = 0 then 124 else 120) [aD p0, aD p1, aI x2, aD p3, aI x4, aI x5, aI x6, aC c7, aI x8, aI x9, v10] none [] h := by
  exact q_if mt_X5_executes dX5_executes_117 (fun _ _ _ _ => rfl) rfl
theorem e_X5_executes_171 (sc : SC) (p0 : Nat) (p1 : Nat) (x2 : Int32) (p3 : Nat) (x4 : Int32) (x5 : Int32) (x6 : Int32) (c7 : Nat) (v8 : AV) (v9 : AV) (v10 : AV) (y0 : Int32) (h : AH) : Run sc n_X5_executes 171 [aD p0, aD p1, aI x2, aD p3, aI x4, aI x5, aI x6, aC c7, v8, v9, v10] none [aI y0] h = Run sc n_X5_executes 203 [aD p0, aD p1, aI x2, aD p3, aI x4, aI y0, aI x6, aC c7, v8, v9, v10] none [] h := by
  refine (s_go mt_X5_executes dX5_executes_171 rfl).trans ?_
  refine (s_go mt_X5_executes dX5_executes_173 rfl).trans ?_
  exact rfl
theorem e_X5_executes_183 (sc : SC) (p0 : Nat) (p1 : Nat) (x2 : Int32) (p3 : Nat) (x4 : Int32) (x5 : Int32) (x6 : Int32) (c7 : Nat) (v8 : AV) (v9 : AV) (v10 : AV) (h : AH) : Run sc n_X5_executes 183 [aD p0, aD p1, aI x2, aD p3, aI x4, aI x5, aI x6, aC c7, v8, v9, v10] none [] h = Run sc n_X5_executes (if ¬ x6 = (-1) then 196 else 189) [aD p0, aD p1, aI x2, aD p3, aI x4, aI x5, aI x6, aC c7, v8, v9, v10] none [] h := by
  refine (s_go mt_X5_executes dX5_executes_183 rfl).trans ?_
  refine (s_go mt_X5_executes dX5_executes_185 rfl).trans ?_
  exact q_icmp mt_X5_executes dX5_executes_186 (fun _ _ _ _ => rfl) rfl
theorem e_X5_executes_208 (sc : SC) (p0 : Nat) (p1 : Nat) (x2 : Int32) (p3 : Nat) (x4 : Int32) (x5 : Int32) (x6 : Int32) (c7 : Nat) (v8 : AV) (v9 : AV) (v10 : AV) (q0 : Nat) (y1 : Int32) (h : AH) : Run sc n_X5_executes 208 [aD p0, aD p1, aI x2, aD p3, aI x4, aI x5, aI x6, aC c7, v8, v9, v10] none [aI y1, aD q0] h = bO (putF h q0 7 3 0 (aI (y1 + (nI 1)))) (fun z => Run sc n_X5_executes 213 [aD p0, aD p1, aI x2, aD p3, aI x4, aI x5, aI x6, aC c7, v8, v9, v10] none [] z) := by
  refine (s_go mt_X5_executes dX5_executes_208 rfl).trans ?_
  refine (s_go mt_X5_executes dX5_executes_209 rfl).trans ?_
  exact q_putfield mt_X5_executes dX5_executes_210 rfl rfl rfl rfl
theorem e_X5_executes_222 (sc : SC) (p0 : Nat) (p1 : Nat) (x2 : Int32) (p3 : Nat) (x4 : Int32) (x5 : Int32) (x6 : Int32) (v7 : AV) (v8 : AV) (v9 : AV) (v10 : AV) (y0 : Int32) (y1 : Int32) (h : AH) : Run sc n_X5_executes 222 [aD p0, aD p1, aI x2, aD p3, aI x4, aI x5, aI x6, v7, v8, v9, v10] none [aI y1, aI y0] h = Run sc n_X5_executes (if y0 < y1 then 229 else 225) [aD p0, aD p1, aI x2, aD p3, aI x4, aI x5, aI x6, v7, v8, v9, v10] none [] h := by
  exact q_icmp mt_X5_executes dX5_executes_222 (fun _ _ _ _ => rfl) rfl
theorem e_X5_executes_11 (sc : SC) (p0 : Nat) (p1 : Nat) (x2 : Int32) (p3 : Nat) (x4 : Int32) (v5 : AV) (v6 : AV) (v7 : AV) (v8 : AV) (v9 : AV) (v10 : AV) (q0 : Nat) (y1 : Int32) (q2 : Nat) (y3 : Int32) (q4 : Nat) (h : AH) : Run sc n_X5_executes 11 [aD p0, aD p1, aI x2, aD p3, aI x4, v5, v6, v7, v8, v9, v10] none [aD q4, aI y3, aD q2, aI y1, aD q0] h = bO (lenA sc h (aD q4)) (fun z => Run sc n_X5_executes 12 [aD p0, aD p1, aI x2, aD p3, aI x4, v5, v6, v7, v8, v9, v10] none [aI (nI z), aI y3, aD q2, aI y1, aD q0] h) := by
  exact q_alen mt_X5_executes dX5_executes_11
theorem e_X5_executes_62 (sc : SC) (p0 : Nat) (p1 : Nat) (x2 : Int32) (p3 : Nat) (x4 : Int32) (x5 : Int32) (x6 : Int32) (c7 : Nat) (v8 : AV) (v9 : AV) (v10 : AV) (y0 : Int32) (h : AH) : Run sc n_X5_executes 62 [aD p0, aD p1, aI x2, aD p3, aI x4, aI x5, aI x6, aC c7, v8, v9, v10] none [aI y0] h = Run sc n_X5_executes (if y0 = 0 then 159 else 65) [aD p0, aD p1, aI x2, aD p3, aI x4, aI x5, aI x6, aC c7, v8, v9, v10] none [] h := by
  exact q_if mt_X5_executes dX5_executes_62 (fun _ _ _ _ => rfl) rfl
theorem e_X5_executes_213 (sc : SC) (p0 : Nat) (p1 : Nat) (x2 : Int32) (p3 : Nat) (x4 : Int32) (x5 : Int32) (x6 : Int32) (c7 : Nat) (v8 : AV) (v9 : AV) (v10 : AV) (h : AH) : Run sc n_X5_executes 213 [aD p0, aD p1, aI x2, aD p3, aI x4, aI x5, aI x6, aC c7, v8, v9, v10] none [] h = Run sc n_X5_executes 31 [aD p0, aD p1, aI x2, aD p3, aI x4, aI x5, aI x6, aC c7, v8, v9, v10] none [] h := by
  refine (s_go mt_X5_executes dX5_executes_213 rfl).trans ?_
  exact rfl
theorem e_X5_executes_12 (sc : SC) (p0 : Nat) (p1 : Nat) (x2 : Int32) (p3 : Nat) (x4 : Int32) (v5 : AV) (v6 : AV) (v7 : AV) (v8 : AV) (v9 : AV) (v10 : AV) (q0 : Nat) (y1 : Int32) (q2 : Nat) (y3 : Int32) (y4 : Int32) (h : AH) : Run sc n_X5_executes 12 [aD p0, aD p1, aI x2, aD p3, aI x4, v5, v6, v7, v8, v9, v10] none [aI y4, aI y3, aD q2, aI y1, aD q0] h = bO (copyA sc h (aD q0) y1 q2 y3 y4) (fun z => Run sc n_X5_executes 15 [aD p0, aD p1, aI x2, aD p3, aI x4, v5, v6, v7, v8, v9, v10] none [] z) := by
  exact q_copy mt_X5_executes dX5_executes_12 rfl (Nat.le_of_ble_eq_true rfl)
theorem e_X5_executes_15 (sc : SC) (p0 : Nat) (p1 : Nat) (x2 : Int32) (p3 : Nat) (x4 : Int32) (v5 : AV) (v6 : AV) (v7 : AV) (v8 : AV) (v9 : AV) (v10 : AV) (h : AH) : Run sc n_X5_executes 15 [aD p0, aD p1, aI x2, aD p3, aI x4, v5, v6, v7, v8, v9, v10] none [] h = bO (putF h p0 7 2 0 (aI (nI 0))) (fun z => Run sc n_X5_executes 20 [aD p0, aD p1, aI x2, aD p3, aI x4, v5, v6, v7, v8, v9, v10] none [] z) := by
  refine (s_go mt_X5_executes dX5_executes_15 rfl).trans ?_
  refine (s_go mt_X5_executes dX5_executes_16 rfl).trans ?_
  exact q_putfield mt_X5_executes dX5_executes_17 rfl rfl rfl rfl
theorem e_X5_executes_20 (sc : SC) (p0 : Nat) (p1 : Nat) (x2 : Int32) (p3 : Nat) (x4 : Int32) (v5 : AV) (v6 : AV) (v7 : AV) (v8 : AV) (v9 : AV) (v10 : AV) (h : AH) : Run sc n_X5_executes 20 [aD p0, aD p1, aI x2, aD p3, aI x4, v5, v6, v7, v8, v9, v10] none [] h = bO (putF h p0 7 3 0 (aI (nI 0))) (fun z => Run sc n_X5_executes 31 [aD p0, aD p1, aI x2, aD p3, aI x4, aI (nI 0), aI (-1), v7, v8, v9, v10] none [] z) := by
  refine (s_go mt_X5_executes dX5_executes_20 rfl).trans ?_
  refine (s_go mt_X5_executes dX5_executes_21 rfl).trans ?_
  refine (s_go mt_X5_executes dX5_executes_23 rfl).trans ?_
  refine (s_go mt_X5_executes dX5_executes_24 rfl).trans ?_
  refine (s_go mt_X5_executes dX5_executes_26 rfl).trans ?_
  refine (s_go mt_X5_executes dX5_executes_27 rfl).trans ?_
  exact q_putfield mt_X5_executes dX5_executes_28 rfl rfl rfl rfl
/-! BranchSlotFiller$Machine.hasEffectsOf(LBranchSlotFiller$Machine;)Z -/
theorem e_X5_hasEffectsOf_0 (sc : SC) (p0 : Nat) (p1 : Nat) (v2 : AV) (h : AH) : Run sc n_X5_hasEffectsOf 0 [aD p0, aD p1, v2] none [] h = bF (getF sc h (aD p0) 7 2) (fun z => Run sc n_X5_hasEffectsOf 4 [aD p0, aD p1, v2] none [z] h) := by
  refine (s_go mt_X5_hasEffectsOf dX5_hasEffectsOf_0 rfl).trans ?_
  exact q_getfield mt_X5_hasEffectsOf dX5_hasEffectsOf_1 rfl
theorem e_X5_hasEffectsOf_11 (sc : SC) (p0 : Nat) (p1 : Nat) (v2 : AV) (h : AH) : Run sc n_X5_hasEffectsOf 11 [aD p0, aD p1, v2] none [] h = some (.inl (some (aI (nI 0))), h) := by
  refine (s_go mt_X5_hasEffectsOf dX5_hasEffectsOf_11 rfl).trans ?_
  exact q_ret (c := (some (aI (nI 0)), h)) mt_X5_hasEffectsOf dX5_hasEffectsOf_12 rfl
theorem e_X5_hasEffectsOf_13 (sc : SC) (p0 : Nat) (p1 : Nat) (v2 : AV) (h : AH) : Run sc n_X5_hasEffectsOf 13 [aD p0, aD p1, v2] none [] h = Run sc n_X5_hasEffectsOf 15 [aD p0, aD p1, aI (nI 0)] none [] h := by
  refine (s_go mt_X5_hasEffectsOf dX5_hasEffectsOf_13 rfl).trans ?_
  refine (s_go mt_X5_hasEffectsOf dX5_hasEffectsOf_14 rfl).trans ?_
  exact rfl
theorem e_X5_hasEffectsOf_15 (sc : SC) (p0 : Nat) (p1 : Nat) (x2 : Int32) (h : AH) : Run sc n_X5_hasEffectsOf 15 [aD p0, aD p1, aI x2] none [] h = bF (getF sc h (aD p0) 7 2) (fun z => Run sc n_X5_hasEffectsOf 20 [aD p0, aD p1, aI x2] none [z, aI x2] h) := by
  refine (s_go mt_X5_hasEffectsOf dX5_hasEffectsOf_15 rfl).trans ?_
  refine (s_go mt_X5_hasEffectsOf dX5_hasEffectsOf_16 rfl).trans ?_
  exact q_getfield mt_X5_hasEffectsOf dX5_hasEffectsOf_17 rfl
theorem e_X5_hasEffectsOf_23 (sc : SC) (p0 : Nat) (p1 : Nat) (x2 : Int32) (h : AH) : Run sc n_X5_hasEffectsOf 23 [aD p0, aD p1, aI x2] none [] h = bF (getF sc h (aD p0) 7 1) (fun z => Run sc n_X5_hasEffectsOf 27 [aD p0, aD p1, aI x2] none [z] h) := by
  refine (s_go mt_X5_hasEffectsOf dX5_hasEffectsOf_23 rfl).trans ?_
  exact q_getfield mt_X5_hasEffectsOf dX5_hasEffectsOf_24 rfl
theorem e_X5_hasEffectsOf_38 (sc : SC) (p0 : Nat) (p1 : Nat) (x2 : Int32) (h : AH) : Run sc n_X5_hasEffectsOf 38 [aD p0, aD p1, aI x2] none [] h = some (.inl (some (aI (nI 0))), h) := by
  refine (s_go mt_X5_hasEffectsOf dX5_hasEffectsOf_38 rfl).trans ?_
  exact q_ret (c := (some (aI (nI 0)), h)) mt_X5_hasEffectsOf dX5_hasEffectsOf_39 rfl
theorem e_X5_hasEffectsOf_40 (sc : SC) (p0 : Nat) (p1 : Nat) (x2 : Int32) (h : AH) : Run sc n_X5_hasEffectsOf 40 [aD p0, aD p1, aI x2] none [] h = Run sc n_X5_hasEffectsOf 15 [aD p0, aD p1, aI (x2 + nI 1)] none [] h := by
  refine (s_go mt_X5_hasEffectsOf dX5_hasEffectsOf_40 rfl).trans ?_
  refine (s_go mt_X5_hasEffectsOf dX5_hasEffectsOf_43 rfl).trans ?_
  exact rfl
theorem e_X5_hasEffectsOf_46 (sc : SC) (p0 : Nat) (p1 : Nat) (x2 : Int32) (h : AH) : Run sc n_X5_hasEffectsOf 46 [aD p0, aD p1, aI x2] none [] h = Run sc n_X5_hasEffectsOf 49 [aD p0, aD p1, aI (nI 8)] none [] h := by
  refine (s_go mt_X5_hasEffectsOf dX5_hasEffectsOf_46 rfl).trans ?_
  refine (s_go mt_X5_hasEffectsOf dX5_hasEffectsOf_48 rfl).trans ?_
  exact rfl
theorem e_X5_hasEffectsOf_49 (sc : SC) (p0 : Nat) (p1 : Nat) (x2 : Int32) (h : AH) : Run sc n_X5_hasEffectsOf 49 [aD p0, aD p1, aI x2] none [] h = bF (getF sc h (aD p0) 7 0) (fun z => Run sc n_X5_hasEffectsOf 54 [aD p0, aD p1, aI x2] none [z, aI x2] h) := by
  refine (s_go mt_X5_hasEffectsOf dX5_hasEffectsOf_49 rfl).trans ?_
  refine (s_go mt_X5_hasEffectsOf dX5_hasEffectsOf_50 rfl).trans ?_
  exact q_getfield mt_X5_hasEffectsOf dX5_hasEffectsOf_51 rfl
theorem e_X5_hasEffectsOf_58 (sc : SC) (p0 : Nat) (p1 : Nat) (x2 : Int32) (h : AH) : Run sc n_X5_hasEffectsOf 58 [aD p0, aD p1, aI x2] none [] h = bF (getF sc h (aD p0) 7 0) (fun z => Run sc n_X5_hasEffectsOf 62 [aD p0, aD p1, aI x2] none [z] h) := by
  refine (s_go mt_X5_hasEffectsOf dX5_hasEffectsOf_58 rfl).trans ?_
  exact q_getfield mt_X5_hasEffectsOf dX5_hasEffectsOf_59 rfl
theorem e_X5_hasEffectsOf_73 (sc : SC) (p0 : Nat) (p1 : Nat) (x2 : Int32) (h : AH) : Run sc n_X5_hasEffectsOf 73 [aD p0, aD p1, aI x2] none [] h = some (.inl (some (aI (nI 0))), h) := by
  refine (s_go mt_X5_hasEffectsOf dX5_hasEffectsOf_73 rfl).trans ?_
  exact q_ret (c := (some (aI (nI 0)), h)) mt_X5_hasEffectsOf dX5_hasEffectsOf_74 rfl
theorem e_X5_hasEffectsOf_75 (sc : SC) (p0 : Nat) (p1 : Nat) (x2 : Int32) (h : AH) : Run sc n_X5_hasEffectsOf 75 [aD p0, aD p1, aI x2] none [] h = Run sc n_X5_hasEffectsOf 49 [aD p0, aD p1, aI (x2 + nI 1)] none [] h := by
  refine (s_go mt_X5_hasEffectsOf dX5_hasEffectsOf_75 rfl).trans ?_
  refine (s_go mt_X5_hasEffectsOf dX5_hasEffectsOf_78 rfl).trans ?_
  exact rfl
theorem e_X5_hasEffectsOf_81 (sc : SC) (p0 : Nat) (p1 : Nat) (x2 : Int32) (h : AH) : Run sc n_X5_hasEffectsOf 81 [aD p0, aD p1, aI x2] none [] h = some (.inl (some (aI (nI 1))), h) := by
  refine (s_go mt_X5_hasEffectsOf dX5_hasEffectsOf_81 rfl).trans ?_
  exact q_ret (c := (some (aI (nI 1)), h)) mt_X5_hasEffectsOf dX5_hasEffectsOf_82 rfl
theorem e_X5_hasEffectsOf_4 (sc : SC) (p0 : Nat) (p1 : Nat) (v2 : AV) (y0 : Int32) (h : AH) : Run sc n_X5_hasEffectsOf 4 [aD p0, aD p1, v2] none [aI y0] h = bF (getF sc h (aD p1) 7 2) (fun z => Run sc n_X5_hasEffectsOf 8 [aD p0, aD p1, v2] none [z, aI y0] h) := by
  refine (s_go mt_X5_hasEffectsOf dX5_hasEffectsOf_4 rfl).trans ?_
  exact q_getfield mt_X5_hasEffectsOf dX5_hasEffectsOf_5 rfl
theorem e_X5_hasEffectsOf_20 (sc : SC) (p0 : Nat) (p1 : Nat) (x2 : Int32) (y0 : Int32) (y1 : Int32) (h : AH) : Run sc n_X5_hasEffectsOf 20 [aD p0, aD p1, aI x2] none [aI y1, aI y0] h = Run sc n_X5_hasEffectsOf (if y1 ≤ y0 then 46 else 23) [aD p0, aD p1, aI x2] none [] h := by
  exact q_icmp mt_X5_hasEffectsOf dX5_hasEffectsOf_20 (fun _ _ _ _ => rfl) rfl
theorem e_X5_hasEffectsOf_27 (sc : SC) (p0 : Nat) (p1 : Nat) (x2 : Int32) (q0 : Nat) (h : AH) : Run sc n_X5_hasEffectsOf 27 [aD p0, aD p1, aI x2] none [aD q0] h = bO (ldI sc h (fun t => t == 0) (aD q0) x2) (fun z => Run sc n_X5_hasEffectsOf 29 [aD p0, aD p1, aI x2] none [aI z] h) := by
  refine (s_go mt_X5_hasEffectsOf dX5_hasEffectsOf_27 rfl).trans ?_
  exact q_iaload mt_X5_hasEffectsOf dX5_hasEffectsOf_28
theorem e_X5_hasEffectsOf_54 (sc : SC) (p0 : Nat) (p1 : Nat) (x2 : Int32) (y0 : Int32) (q1 : Nat) (h : AH) : Run sc n_X5_hasEffectsOf 54 [aD p0, aD p1, aI x2] none [aD q1, aI y0] h = bO (lenA sc h (aD q1)) (fun z => Run sc n_X5_hasEffectsOf 55 [aD p0, aD p1, aI x2] none [aI (nI z), aI y0] h) := by
  exact q_alen mt_X5_hasEffectsOf dX5_hasEffectsOf_54
theorem e_X5_hasEffectsOf_62 (sc : SC) (p0 : Nat) (p1 : Nat) (x2 : Int32) (q0 : Nat) (h : AH) : Run sc n_X5_hasEffectsOf 62 [aD p0, aD p1, aI x2] none [aD q0] h = bO (ldI sc h (fun t => t == 0) (aD q0) x2) (fun z => Run sc n_X5_hasEffectsOf 64 [aD p0, aD p1, aI x2] none [aI z] h) := by
  refine (s_go mt_X5_hasEffectsOf dX5_hasEffectsOf_62 rfl).trans ?_
  exact q_iaload mt_X5_hasEffectsOf dX5_hasEffectsOf_63
theorem e_X5_hasEffectsOf_8 (sc : SC) (p0 : Nat) (p1 : Nat) (v2 : AV) (y0 : Int32) (y1 : Int32) (h : AH) : Run sc n_X5_hasEffectsOf 8 [aD p0, aD p1, v2] none [aI y1, aI y0] h = Run sc n_X5_hasEffectsOf (if y0 = y1 then 13 else 11) [aD p0, aD p1, v2] none [] h := by
  exact q_icmp mt_X5_hasEffectsOf dX5_hasEffectsOf_8 (fun _ _ _ _ => rfl) rfl
theorem e_X5_hasEffectsOf_29 (sc : SC) (p0 : Nat) (p1 : Nat) (x2 : Int32) (y0 : Int32) (h : AH) : Run sc n_X5_hasEffectsOf 29 [aD p0, aD p1, aI x2] none [aI y0] h = bF (getF sc h (aD p1) 7 1) (fun z => Run sc n_X5_hasEffectsOf 33 [aD p0, aD p1, aI x2] none [z, aI y0] h) := by
  refine (s_go mt_X5_hasEffectsOf dX5_hasEffectsOf_29 rfl).trans ?_
  exact q_getfield mt_X5_hasEffectsOf dX5_hasEffectsOf_30 rfl
theorem e_X5_hasEffectsOf_55 (sc : SC) (p0 : Nat) (p1 : Nat) (x2 : Int32) (y0 : Int32) (y1 : Int32) (h : AH) : Run sc n_X5_hasEffectsOf 55 [aD p0, aD p1, aI x2] none [aI y1, aI y0] h = Run sc n_X5_hasEffectsOf (if y1 ≤ y0 then 81 else 58) [aD p0, aD p1, aI x2] none [] h := by
  exact q_icmp mt_X5_hasEffectsOf dX5_hasEffectsOf_55 (fun _ _ _ _ => rfl) rfl
theorem e_X5_hasEffectsOf_64 (sc : SC) (p0 : Nat) (p1 : Nat) (x2 : Int32) (y0 : Int32) (h : AH) : Run sc n_X5_hasEffectsOf 64 [aD p0, aD p1, aI x2] none [aI y0] h = bF (getF sc h (aD p1) 7 0) (fun z => Run sc n_X5_hasEffectsOf 68 [aD p0, aD p1, aI x2] none [z, aI y0] h) := by
  refine (s_go mt_X5_hasEffectsOf dX5_hasEffectsOf_64 rfl).trans ?_
  exact q_getfield mt_X5_hasEffectsOf dX5_hasEffectsOf_65 rfl
theorem e_X5_hasEffectsOf_33 (sc : SC) (p0 : Nat) (p1 : Nat) (x2 : Int32) (y0 : Int32) (q1 : Nat) (h : AH) : Run sc n_X5_hasEffectsOf 33 [aD p0, aD p1, aI x2] none [aD q1, aI y0] h = bO (ldI sc h (fun t => t == 0) (aD q1) x2) (fun z => Run sc n_X5_hasEffectsOf 35 [aD p0, aD p1, aI x2] none [aI z, aI y0] h) := by
  refine (s_go mt_X5_hasEffectsOf dX5_hasEffectsOf_33 rfl).trans ?_
  exact q_iaload mt_X5_hasEffectsOf dX5_hasEffectsOf_34
theorem e_X5_hasEffectsOf_68 (sc : SC) (p0 : Nat) (p1 : Nat) (x2 : Int32) (y0 : Int32) (q1 : Nat) (h : AH) : Run sc n_X5_hasEffectsOf 68 [aD p0, aD p1, aI x2] none [aD q1, aI y0] h = bO (ldI sc h (fun t => t == 0) (aD q1) x2) (fun z => Run sc n_X5_hasEffectsOf 70 [aD p0, aD p1, aI x2] none [aI z, aI y0] h) := by
  refine (s_go mt_X5_hasEffectsOf dX5_hasEffectsOf_68 rfl).trans ?_
  exact q_iaload mt_X5_hasEffectsOf dX5_hasEffectsOf_69
theorem e_X5_hasEffectsOf_35 (sc : SC) (p0 : Nat) (p1 : Nat) (x2 : Int32) (y0 : Int32) (y1 : Int32) (h : AH) : Run sc n_X5_hasEffectsOf 35 [aD p0, aD p1, aI x2] none [aI y1, aI y0] h = Run sc n_X5_hasEffectsOf (if y0 = y1 then 40 else 38) [aD p0, aD p1, aI x2] none [] h := by
  exact q_icmp mt_X5_hasEffectsOf dX5_hasEffectsOf_35 (fun _ _ _ _ => rfl) rfl
theorem e_X5_hasEffectsOf_70 (sc : SC) (p0 : Nat) (p1 : Nat) (x2 : Int32) (y0 : Int32) (y1 : Int32) (h : AH) : Run sc n_X5_hasEffectsOf 70 [aD p0, aD p1, aI x2] none [aI y1, aI y0] h = Run sc n_X5_hasEffectsOf (if y0 = y1 then 75 else 73) [aD p0, aD p1, aI x2] none [] h := by
  exact q_icmp mt_X5_hasEffectsOf dX5_hasEffectsOf_70 (fun _ _ _ _ => rfl) rfl
/-! BranchSlotFiller.<init>()V -/
theorem e_X9_init_0 (sc : SC) (p0 : Nat) (h : AH) : Run sc n_X9_init 0 [aD p0] none [] h = bC (Call sc n_X7_init [aD h.1.length] (hpush h (oO 9 [aN, aI 0, aI 0, aI 0, aN]))) (fun v z => Run sc n_X9_init 12 [aD p0] none (v.toList ++ [aD h.1.length, aD p0]) z) (fun _ _ => none) := by
  refine (s_go mt_X9_init dX9_init_0 rfl).trans ?_
  refine (s_go mt_X9_init dX9_init_1 rfl).trans ?_
  refine (s_go mt_X9_init dX9_init_4 rfl).trans ?_
  refine (s_go mt_X9_init dX9_init_5 rfl).trans ?_
  refine (s_go mt_X9_init dX9_init_8 rfl).trans ?_
  exact q_cIN mt_X9_init dX9_init_9 rfl mt_X7_init rfl rfl rfl
theorem e_X9_init_12 (sc : SC) (p0 : Nat) (q0 : Nat) (q1 : Nat) (h : AH) : Run sc n_X9_init 12 [aD p0] none [aD q1, aD q0] h = bO (putF h q0 11 0 3 (aD q1)) (fun z => Run sc n_X9_init 15 [aD p0] none [] z) := by
  exact q_putfield mt_X9_init dX9_init_12 rfl rfl rfl rfl
theorem e_X9_init_15 (sc : SC) (p0 : Nat) (h : AH) : Run sc n_X9_init 15 [aD p0] none [] h = bC (Call sc n_X8_init [aD h.1.length] (hpush h (oO 10 [aN, aI 0]))) (fun v z => Run sc n_X9_init 23 [aD p0] none (v.toList ++ [aD h.1.length, aD p0]) z) (fun _ _ => none) := by
  refine (s_go mt_X9_init dX9_init_15 rfl).trans ?_
  refine (s_go mt_X9_init dX9_init_16 rfl).trans ?_
  refine (s_go mt_X9_init dX9_init_19 rfl).trans ?_
  exact q_cIN mt_X9_init dX9_init_20 rfl mt_X8_init rfl rfl rfl
theorem e_X9_init_23 (sc : SC) (p0 : Nat) (q0 : Nat) (q1 : Nat) (h : AH) : Run sc n_X9_init 23 [aD p0] none [aD q1, aD q0] h = bO (putF h q0 11 1 3 (aD q1)) (fun z => Run sc n_X9_init 26 [aD p0] none [] z) := by
  exact q_putfield mt_X9_init dX9_init_23 rfl rfl rfl rfl
theorem e_X9_init_26 (sc : SC) (p0 : Nat) (h : AH) : Run sc n_X9_init 26 [aD p0] none [] h = bC (Call sc n_X6_init [aD h.1.length, aI (nI 30)] (hpush h (oO 8 [aN, aI 0]))) (fun v z => Run sc n_X9_init 36 [aD p0] none (v.toList ++ [aD h.1.length, aD p0]) z) (fun _ _ => none) := by
  refine (s_go mt_X9_init dX9_init_26 rfl).trans ?_
  refine (s_go mt_X9_init dX9_init_27 rfl).trans ?_
  refine (s_go mt_X9_init dX9_init_30 rfl).trans ?_
  refine (s_go mt_X9_init dX9_init_31 rfl).trans ?_
  exact q_cI mt_X9_init dX9_init_33 rfl mt_X6_init rfl rfl rfl
theorem e_X9_init_36 (sc : SC) (p0 : Nat) (q0 : Nat) (q1 : Nat) (h : AH) : Run sc n_X9_init 36 [aD p0] none [aD q1, aD q0] h = bO (putF h q0 11 2 3 (aD q1)) (fun z => Run sc n_X9_init 39 [aD p0] none [] z) := by
  exact q_putfield mt_X9_init dX9_init_36 rfl rfl rfl rfl
theorem e_X9_init_39 (sc : SC) (p0 : Nat) (h : AH) : Run sc n_X9_init 39 [aD p0] none [] h = bC (Call sc n_X6_init [aD h.1.length, aI (nI 60)] (hpush h (oO 8 [aN, aI 0]))) (fun v z => Run sc n_X9_init 49 [aD p0] none (v.toList ++ [aD h.1.length, aD p0]) z) (fun _ _ => none) := by
  refine (s_go mt_X9_init dX9_init_39 rfl).trans ?_
  refine (s_go mt_X9_init dX9_init_40 rfl).trans ?_
  refine (s_go mt_X9_init dX9_init_43 rfl).trans ?_
  refine (s_go mt_X9_init dX9_init_44 rfl).trans ?_
  exact q_cI mt_X9_init dX9_init_46 rfl mt_X6_init rfl rfl rfl
theorem e_X9_init_49 (sc : SC) (p0 : Nat) (q0 : Nat) (q1 : Nat) (h : AH) : Run sc n_X9_init 49 [aD p0] none [aD q1, aD q0] h = bO (putF h q0 11 3 3 (aD q1)) (fun z => Run sc n_X9_init 52 [aD p0] none [] z) := by
  exact q_putfield mt_X9_init dX9_init_49 rfl rfl rfl rfl
theorem e_X9_init_52 (sc : SC) (p0 : Nat) (h : AH) : Run sc n_X9_init 52 [aD p0] none [] h = bF (getF sc (hpush h (oO 5 [aN, aN, aN, aN, aN])) (aD p0) 11 3) (fun z => Run sc n_X9_init 61 [aD p0] none [z, aD h.1.length, aD h.1.length, aD p0] (hpush h (oO 5 [aN, aN, aN, aN, aN]))) := by
  refine (s_go mt_X9_init dX9_init_52 rfl).trans ?_
  refine (s_go mt_X9_init dX9_init_53 rfl).trans ?_
  refine (s_go mt_X9_init dX9_init_56 rfl).trans ?_
  refine (s_go mt_X9_init dX9_init_57 rfl).trans ?_
  exact q_getfield mt_X9_init dX9_init_58 rfl
theorem e_X9_init_61 (sc : SC) (p0 : Nat) (q0 : Nat) (q1 : Nat) (q2 : Nat) (q3 : Nat) (h : AH) : Run sc n_X9_init 61 [aD p0] none [aD q3, aD q2, aD q1, aD q0] h = bC (Call sc n_X2_init [aD q2, aD q3] h) (fun v z => Run sc n_X9_init 64 [aD p0] none (v.toList ++ [aD q1, aD q0]) z) (fun _ _ => none) := by
  exact q_cI mt_X9_init dX9_init_61 rfl mt_X2_init rfl rfl rfl
theorem e_X9_init_64 (sc : SC) (p0 : Nat) (q0 : Nat) (q1 : Nat) (h : AH) : Run sc n_X9_init 64 [aD p0] none [aD q1, aD q0] h = bO (putF h q0 11 4 3 (aD q1)) (fun z => Run sc n_X9_init 67 [aD p0] none [] z) := by
  exact q_putfield mt_X9_init dX9_init_64 rfl rfl rfl rfl
theorem e_X9_init_67 (sc : SC) (p0 : Nat) (h : AH) : Run sc n_X9_init 67 [aD p0] none [] h = bF (getF sc (hpush h (oO 4 [aN, aN])) (aD p0) 11 3) (fun z => Run sc n_X9_init 76 [aD p0] none [z, aD h.1.length, aD h.1.length, aD p0] (hpush h (oO 4 [aN, aN]))) := by
  refine (s_go mt_X9_init dX9_init_67 rfl).trans ?_
  refine (s_go mt_X9_init dX9_init_68 rfl).trans ?_
  refine (s_go mt_X9_init dX9_init_71 rfl).trans ?_
  refine (s_go mt_X9_init dX9_init_72 rfl).trans ?_
  exact q_getfield mt_X9_init dX9_init_73 rfl
theorem e_X9_init_76 (sc : SC) (p0 : Nat) (q0 : Nat) (q1 : Nat) (q2 : Nat) (q3 : Nat) (h : AH) : Run sc n_X9_init 76 [aD p0] none [aD q3, aD q2, aD q1, aD q0] h = bF (getF sc h (aD p0) 11 4) (fun z => Run sc n_X9_init 80 [aD p0] none [z, aD q3, aD q2, aD q1, aD q0] h) := by
  refine (s_go mt_X9_init dX9_init_76 rfl).trans ?_
  exact q_getfield mt_X9_init dX9_init_77 rfl
theorem e_X9_init_80 (sc : SC) (p0 : Nat) (q0 : Nat) (q1 : Nat) (q2 : Nat) (q3 : Nat) (q4 : Nat) (h : AH) : Run sc n_X9_init 80 [aD p0] none [aD q4, aD q3, aD q2, aD q1, aD q0] h = bC (Call sc n_X1_init [aD q2, aD q3, aD q4] h) (fun v z => Run sc n_X9_init 83 [aD p0] none (v.toList ++ [aD q1, aD q0]) z) (fun _ _ => none) := by
  exact q_cI mt_X9_init dX9_init_80 rfl mt_X1_init rfl rfl rfl
theorem e_X9_init_83 (sc : SC) (p0 : Nat) (q0 : Nat) (q1 : Nat) (h : AH) : Run sc n_X9_init 83 [aD p0] none [aD q1, aD q0] h = bO (putF h q0 11 5 3 (aD q1)) (fun z => Run sc n_X9_init 86 [aD p0] none [] z) := by
  exact q_putfield mt_X9_init dX9_init_83 rfl rfl rfl rfl
theorem e_X9_init_86 (sc : SC) (p0 : Nat) (h : AH) : Run sc n_X9_init 86 [aD p0] none [] h = bC (Call sc n_X3_init [aD h.1.length] (hpush h (oO 6 [aN, aI 0, aI 0]))) (fun v z => Run sc n_X9_init 94 [aD p0] none (v.toList ++ [aD h.1.length, aD p0]) z) (fun _ _ => none) := by
  refine (s_go mt_X9_init dX9_init_86 rfl).trans ?_
  refine (s_go mt_X9_init dX9_init_87 rfl).trans ?_
  refine (s_go mt_X9_init dX9_init_90 rfl).trans ?_
  exact q_cI mt_X9_init dX9_init_91 rfl mt_X3_init rfl rfl rfl
theorem e_X9_init_94 (sc : SC) (p0 : Nat) (q0 : Nat) (q1 : Nat) (h : AH) : Run sc n_X9_init 94 [aD p0] none [aD q1, aD q0] h = bO (putF h q0 11 6 3 (aD q1)) (fun z => Run sc n_X9_init 97 [aD p0] none [] z) := by
  exact q_putfield mt_X9_init dX9_init_94 rfl rfl rfl rfl
theorem e_X9_init_97 (sc : SC) (p0 : Nat) (h : AH) : Run sc n_X9_init 97 [aD p0] none [] h = bI (¬ ((nI 24) < 0 ∨ 67108864 < (nI 24).toNatClampNeg)) (Run sc n_X9_init 102 [aD p0] none [aD h.1.length, aD p0] (hpush h (oI 0 (nI 24).toNatClampNeg (fun _ => 0)))) := by
  refine (s_go mt_X9_init dX9_init_97 rfl).trans ?_
  refine (s_go mt_X9_init dX9_init_98 rfl).trans ?_
  exact q_newarray (mk := fun m => oI 0 m (fun _ => 0)) mt_X9_init dX9_init_100 (fun _ => rfl)
theorem e_X9_init_102 (sc : SC) (p0 : Nat) (q0 : Nat) (q1 : Nat) (h : AH) : Run sc n_X9_init 102 [aD p0] none [aD q1, aD q0] h = bO (putF h q0 11 7 3 (aD q1)) (fun z => Run sc n_X9_init 105 [aD p0] none [] z) := by
  exact q_putfield mt_X9_init dX9_init_102 rfl rfl rfl rfl
theorem e_X9_init_105 (sc : SC) (p0 : Nat) (h : AH) : Run sc n_X9_init 105 [aD p0] none [] h = bI (¬ ((nI 24) < 0 ∨ 67108864 < (nI 24).toNatClampNeg)) (Run sc n_X9_init 110 [aD p0] none [aD h.1.length, aD p0] (hpush h (oI 0 (nI 24).toNatClampNeg (fun _ => 0)))) := by
  refine (s_go mt_X9_init dX9_init_105 rfl).trans ?_
  refine (s_go mt_X9_init dX9_init_106 rfl).trans ?_
  exact q_newarray (mk := fun m => oI 0 m (fun _ => 0)) mt_X9_init dX9_init_108 (fun _ => rfl)
theorem e_X9_init_110 (sc : SC) (p0 : Nat) (q0 : Nat) (q1 : Nat) (h : AH) : Run sc n_X9_init 110 [aD p0] none [aD q1, aD q0] h = bO (putF h q0 11 8 3 (aD q1)) (fun z => Run sc n_X9_init 113 [aD p0] none [] z) := by
  exact q_putfield mt_X9_init dX9_init_110 rfl rfl rfl rfl
theorem e_X9_init_113 (sc : SC) (p0 : Nat) (h : AH) : Run sc n_X9_init 113 [aD p0] none [] h = bC (Call sc n_X5_init [aD h.1.length, aI (nI 2000)] (hpush h (oO 7 [aN, aN, aI 0, aI 0]))) (fun v z => Run sc n_X9_init 124 [aD p0] none (v.toList ++ [aD h.1.length, aD p0]) z) (fun _ _ => none) := by
  refine (s_go mt_X9_init dX9_init_113 rfl).trans ?_
  refine (s_go mt_X9_init dX9_init_114 rfl).trans ?_
  refine (s_go mt_X9_init dX9_init_117 rfl).trans ?_
  refine (s_go mt_X9_init dX9_init_118 rfl).trans ?_
  exact q_cI mt_X9_init dX9_init_121 rfl mt_X5_init rfl rfl rfl
theorem e_X9_init_124 (sc : SC) (p0 : Nat) (q0 : Nat) (q1 : Nat) (h : AH) : Run sc n_X9_init 124 [aD p0] none [aD q1, aD q0] h = bO (putF h q0 11 9 3 (aD q1)) (fun z => Run sc n_X9_init 127 [aD p0] none [] z) := by
  exact q_putfield mt_X9_init dX9_init_124 rfl rfl rfl rfl
theorem e_X9_init_127 (sc : SC) (p0 : Nat) (h : AH) : Run sc n_X9_init 127 [aD p0] none [] h = bC (Call sc n_X5_init [aD h.1.length, aI (nI 2000)] (hpush h (oO 7 [aN, aN, aI 0, aI 0]))) (fun v z => Run sc n_X9_init 138 [aD p0] none (v.toList ++ [aD h.1.length, aD p0]) z) (fun _ _ => none) := by
  refine (s_go mt_X9_init dX9_init_127 rfl).trans ?_
  refine (s_go mt_X9_init dX9_init_128 rfl).trans ?_
  refine (s_go mt_X9_init dX9_init_131 rfl).trans ?_
  refine (s_go mt_X9_init dX9_init_132 rfl).trans ?_
  exact q_cI mt_X9_init dX9_init_135 rfl mt_X5_init rfl rfl rfl
theorem e_X9_init_138 (sc : SC) (p0 : Nat) (q0 : Nat) (q1 : Nat) (h : AH) : Run sc n_X9_init 138 [aD p0] none [aD q1, aD q0] h = bO (putF h q0 11 10 3 (aD q1)) (fun z => Run sc n_X9_init 141 [aD p0] none [] z) := by
  exact q_putfield mt_X9_init dX9_init_138 rfl rfl rfl rfl
theorem e_X9_init_141 (sc : SC) (p0 : Nat) (h : AH) : Run sc n_X9_init 141 [aD p0] none [] h = bC (Call sc n_X5_init [aD h.1.length, aI (nI 300)] (hpush h (oO 7 [aN, aN, aI 0, aI 0]))) (fun v z => Run sc n_X9_init 152 [aD p0] none (v.toList ++ [aD h.1.length, aD p0]) z) (fun _ _ => none) := by
  refine (s_go mt_X9_init dX9_init_141 rfl).trans ?_
  refine (s_go mt_X9_init dX9_init_142 rfl).trans ?_
  refine (s_go mt_X9_init dX9_init_145 rfl).trans ?_
  refine (s_go mt_X9_init dX9_init_146 rfl).trans ?_
  exact q_cI mt_X9_init dX9_init_149 rfl mt_X5_init rfl rfl rfl
theorem e_X9_init_152 (sc : SC) (p0 : Nat) (q0 : Nat) (q1 : Nat) (h : AH) : Run sc n_X9_init 152 [aD p0] none [aD q1, aD q0] h = bO (putF h q0 11 11 3 (aD q1)) (fun z => Run sc n_X9_init 155 [aD p0] none [] z) := by
  exact q_putfield mt_X9_init dX9_init_152 rfl rfl rfl rfl
theorem e_X9_init_155 (sc : SC) (p0 : Nat) (h : AH) : Run sc n_X9_init 155 [aD p0] none [] h = bC (Call sc n_X6_init [aD h.1.length, aI (nI 30)] (hpush h (oO 8 [aN, aI 0]))) (fun v z => Run sc n_X9_init 165 [aD p0] none (v.toList ++ [aD h.1.length, aD p0]) z) (fun _ _ => none) := by
  refine (s_go mt_X9_init dX9_init_155 rfl).trans ?_
  refine (s_go mt_X9_init dX9_init_156 rfl).trans ?_
  refine (s_go mt_X9_init dX9_init_159 rfl).trans ?_
  refine (s_go mt_X9_init dX9_init_160 rfl).trans ?_
  exact q_cI mt_X9_init dX9_init_162 rfl mt_X6_init rfl rfl rfl
theorem e_X9_init_165 (sc : SC) (p0 : Nat) (q0 : Nat) (q1 : Nat) (h : AH) : Run sc n_X9_init 165 [aD p0] none [aD q1, aD q0] h = bO (putF h q0 11 13 3 (aD q1)) (fun z => Run sc n_X9_init 168 [aD p0] none [] z) := by
  exact q_putfield mt_X9_init dX9_init_165 rfl rfl rfl rfl
theorem e_X9_init_168 (sc : SC) (p0 : Nat) (h : AH) : Run sc n_X9_init 168 [aD p0] none [] h = bC (Call sc n_X6_init [aD h.1.length, aI (nI 60)] (hpush h (oO 8 [aN, aI 0]))) (fun v z => Run sc n_X9_init 178 [aD p0] none (v.toList ++ [aD h.1.length, aD p0]) z) (fun _ _ => none) := by
  refine (s_go mt_X9_init dX9_init_168 rfl).trans ?_
  refine (s_go mt_X9_init dX9_init_169 rfl).trans ?_
  refine (s_go mt_X9_init dX9_init_172 rfl).trans ?_
  refine (s_go mt_X9_init dX9_init_173 rfl).trans ?_
  exact q_cI mt_X9_init dX9_init_175 rfl mt_X6_init rfl rfl rfl
theorem e_X9_init_178 (sc : SC) (p0 : Nat) (q0 : Nat) (q1 : Nat) (h : AH) : Run sc n_X9_init 178 [aD p0] none [aD q1, aD q0] h = bO (putF h q0 11 14 3 (aD q1)) (fun z => Run sc n_X9_init 181 [aD p0] none [] z) := by
  exact q_putfield mt_X9_init dX9_init_178 rfl rfl rfl rfl
theorem e_X9_init_181 (sc : SC) (p0 : Nat) (h : AH) : Run sc n_X9_init 181 [aD p0] none [] h = bI (¬ ((nI 24) < 0 ∨ 67108864 < (nI 24).toNatClampNeg)) (Run sc n_X9_init 186 [aD p0] none [aD h.1.length, aD p0] (hpush h (oI 0 (nI 24).toNatClampNeg (fun _ => 0)))) := by
  refine (s_go mt_X9_init dX9_init_181 rfl).trans ?_
  refine (s_go mt_X9_init dX9_init_182 rfl).trans ?_
  exact q_newarray (mk := fun m => oI 0 m (fun _ => 0)) mt_X9_init dX9_init_184 (fun _ => rfl)
theorem e_X9_init_186 (sc : SC) (p0 : Nat) (q0 : Nat) (q1 : Nat) (h : AH) : Run sc n_X9_init 186 [aD p0] none [aD q1, aD q0] h = bO (putF h q0 11 15 3 (aD q1)) (fun z => Run sc n_X9_init 189 [aD p0] none [] z) := by
  exact q_putfield mt_X9_init dX9_init_186 rfl rfl rfl rfl
theorem e_X9_init_189 (sc : SC) (p0 : Nat) (h : AH) : Run sc n_X9_init 189 [aD p0] none [] h = some (.inl none, h) := by
  exact q_ret (c := (none, h)) mt_X9_init dX9_init_189 rfl
/-! BranchSlotFiller.feed(C)I -/
theorem e_X9_feed_0 (sc : SC) (p0 : Nat) (x1 : Int32) (h : AH) : Run sc n_X9_feed 0 [aD p0, aI x1] none [] h = bF (getF sc h (aD p0) 11 0) (fun z => Run sc n_X9_feed 4 [aD p0, aI x1] none [z] h) := by
  refine (s_go mt_X9_feed dX9_feed_0 rfl).trans ?_
  exact q_getfield mt_X9_feed dX9_feed_1 rfl
theorem e_X9_feed_11 (sc : SC) (p0 : Nat) (x1 : Int32) (h : AH) : Run sc n_X9_feed 11 [aD p0, aI x1] none [] h = some (.inr 0, (h.1, h.2 + 1)) := by
  exact q_new mt_X9_feed dX9_feed_11 rfl (throwA_S rfl (Nat.le_of_ble_eq_true rfl) dX9_feed_14 dX9_feed_15 dX9_feed_17 dX9_feed_20 rfl rfl)
theorem e_X9_feed_21 (sc : SC) (p0 : Nat) (x1 : Int32) (h : AH) : Run sc n_X9_feed 21 [aD p0, aI x1] none [] h = bF (getF sc h (aD p0) 11 0) (fun z => Run sc n_X9_feed 25 [aD p0, aI x1] none [z] h) := by
  refine (s_go mt_X9_feed dX9_feed_21 rfl).trans ?_
  exact q_getfield mt_X9_feed dX9_feed_22 rfl
theorem e_X9_feed_4 (sc : SC) (p0 : Nat) (x1 : Int32) (q0 : Nat) (h : AH) : Run sc n_X9_feed 4 [aD p0, aI x1] none [aD q0] h = bI (rOK sc h (aD q0) 9 = true) (bC (Call sc n_X7_takes [aD q0, aI x1] h) (fun v z => Run sc n_X9_feed 8 [aD p0, aI x1] none (v.toList ++ []) z) (fun E z => some (.inr E, z))) := by
  refine (s_go mt_X9_feed dX9_feed_4 rfl).trans ?_
  exact q_cV mt_X9_feed dX9_feed_5 rfl mt_X7_takes rfl rfl rfl
theorem e_X9_feed_25 (sc : SC) (p0 : Nat) (x1 : Int32) (q0 : Nat) (h : AH) : Run sc n_X9_feed 25 [aD p0, aI x1] none [aD q0] h = bF (getF sc h (aD q0) 9 1) (fun z => Run sc n_X9_feed 28 [aD p0, aI x1] none [z] h) := by
  exact q_getfield mt_X9_feed dX9_feed_25 rfl
theorem e_X9_feed_8 (sc : SC) (p0 : Nat) (x1 : Int32) (y0 : Int32) (h : AH) : Run sc n_X9_feed 8 [aD p0, aI x1] none [aI y0] h = Run sc n_X9_feed (if ¬ y0 = 0 then 21 else 11) [aD p0, aI x1] none [] h := by
  exact q_if mt_X9_feed dX9_feed_8 (fun _ _ _ _ => rfl) rfl
theorem e_X9_feed_28 (sc : SC) (p0 : Nat) (x1 : Int32) (y0 : Int32) (h : AH) : Run sc n_X9_feed 28 [aD p0, aI x1] none [aI y0] h = some (.inl (some (aI y0)), h) := by
  exact q_ret (c := (some (aI y0), h)) mt_X9_feed dX9_feed_28 rfl
/-! BranchSlotFiller.parse()I -/
theorem e_X9_parse_0 (sc : SC) (p0 : Nat) (v1 : AV) (v2 : AV) (h : AH) : Run sc n_X9_parse 0 [aD p0, v1, v2] none [] h = bF (getF sc h (aD p0) 11 0) (fun z => Run sc n_X9_parse 4 [aD p0, v1, v2] none [z] h) := by
  refine (s_go mt_X9_parse dX9_parse_0 rfl).trans ?_
  exact q_getfield mt_X9_parse dX9_parse_1 rfl
theorem e_X9_parse_20 (sc : SC) (p0 : Nat) (x1 : Int32) (v2 : AV) (h : AH) : Run sc n_X9_parse 20 [aD p0, aI x1, v2] none [] h = bF (getF sc h (aD p0) 11 0) (fun z => Run sc n_X9_parse 26 [aD p0, aI x1, v2] none [z, aI (-100)] h) := by
  refine (s_go mt_X9_parse dX9_parse_20 rfl).trans ?_
  refine (s_go mt_X9_parse dX9_parse_22 rfl).trans ?_
  exact q_getfield mt_X9_parse dX9_parse_23 rfl
theorem e_X9_parse_31 (sc : SC) (p0 : Nat) (x1 : Int32) (v2 : AV) (h : AH) : Run sc n_X9_parse 31 [aD p0, aI x1, v2] none [] h = bF (getF sc h (aD p0) 11 0) (fun z => Run sc n_X9_parse 35 [aD p0, aI x1, v2] none [z] h) := by
  refine (s_go mt_X9_parse dX9_parse_31 rfl).trans ?_
  exact q_getfield mt_X9_parse dX9_parse_32 rfl
theorem e_X9_parse_49 (sc : SC) (p0 : Nat) (x1 : Int32) (p2 : Nat) (h : AH) : Run sc n_X9_parse 49 [aD p0, aI x1, aD p2] none [] h = some (.inr 1, (h.1, h.2 + 1)) := by
  exact q_new mt_X9_parse dX9_parse_49 rfl (throwA_S rfl (Nat.le_of_ble_eq_true rfl) dX9_parse_52 dX9_parse_53 dX9_parse_55 dX9_parse_58 rfl rfl)
theorem e_X9_parse_59 (sc : SC) (p0 : Nat) (x1 : Int32) (p2 : Nat) (h : AH) : Run sc n_X9_parse 59 [aD p0, aI x1, aD p2] none [] h = bF (getF sc h (aD p0) 11 2) (fun z => Run sc n_X9_parse 63 [aD p0, aI x1, aD p2] none [z] h) := by
  refine (s_go mt_X9_parse dX9_parse_59 rfl).trans ?_
  exact q_getfield mt_X9_parse dX9_parse_60 rfl
theorem e_X9_parse_76 (sc : SC) (p0 : Nat) (x1 : Int32) (p2 : Nat) (h : AH) : Run sc n_X9_parse 76 [aD p0, aI x1, aD p2] none [] h = some (.inr 0, (h.1, h.2 + 1)) := by
  exact q_new mt_X9_parse dX9_parse_76 rfl (throwA_S rfl (Nat.le_of_ble_eq_true rfl) dX9_parse_79 dX9_parse_80 dX9_parse_82 dX9_parse_85 rfl rfl)
theorem e_X9_parse_86 (sc : SC) (p0 : Nat) (x1 : Int32) (p2 : Nat) (h : AH) : Run sc n_X9_parse 86 [aD p0, aI x1, aD p2] none [] h = bF (getF sc h (aD p0) 11 2) (fun z => Run sc n_X9_parse 90 [aD p0, aI x1, aD p2] none [z] h) := by
  refine (s_go mt_X9_parse dX9_parse_86 rfl).trans ?_
  exact q_getfield mt_X9_parse dX9_parse_87 rfl
theorem e_X9_parse_4 (sc : SC) (p0 : Nat) (v1 : AV) (v2 : AV) (q0 : Nat) (h : AH) : Run sc n_X9_parse 4 [aD p0, v1, v2] none [aD q0] h = bI (rOK sc h (aD q0) 9 = true) (bC (Call sc n_X7_readsText [aD q0] h) (fun v z => Run sc n_X9_parse 7 [aD p0, v1, v2] none (v.toList ++ []) z) (fun E z => some (.inr E, z))) := by
  exact q_cV mt_X9_parse dX9_parse_4 rfl mt_X7_readsText rfl rfl rfl
theorem e_X9_parse_26 (sc : SC) (p0 : Nat) (x1 : Int32) (v2 : AV) (y0 : Int32) (q1 : Nat) (h : AH) : Run sc n_X9_parse 26 [aD p0, aI x1, v2] none [aD q1, aI y0] h = bF (getF sc h (aD q1) 9 2) (fun z => Run sc n_X9_parse 29 [aD p0, aI x1, v2] none [z, aI y0] h) := by
  exact q_getfield mt_X9_parse dX9_parse_26 rfl
theorem e_X9_parse_35 (sc : SC) (p0 : Nat) (x1 : Int32) (v2 : AV) (q0 : Nat) (h : AH) : Run sc n_X9_parse 35 [aD p0, aI x1, v2] none [aD q0] h = bF (getF sc h (aD q0) 9 4) (fun z => Run sc n_X9_parse 38 [aD p0, aI x1, v2] none [z] h) := by
  exact q_getfield mt_X9_parse dX9_parse_35 rfl
theorem e_X9_parse_63 (sc : SC) (p0 : Nat) (x1 : Int32) (p2 : Nat) (q0 : Nat) (h : AH) : Run sc n_X9_parse 63 [aD p0, aI x1, aD p2] none [aD q0] h = bF (getF sc h (aD q0) 8 1) (fun z => Run sc n_X9_parse 66 [aD p0, aI x1, aD p2] none [z] h) := by
  exact q_getfield mt_X9_parse dX9_parse_63 rfl
theorem e_X9_parse_90 (sc : SC) (p0 : Nat) (x1 : Int32) (p2 : Nat) (q0 : Nat) (h : AH) : Run sc n_X9_parse 90 [aD p0, aI x1, aD p2] none [aD q0] h = bI (rOK sc h (aD q0) 8 = true) (bC (Call sc n_X6_appendAll [aD q0, aD p2] h) (fun v z => Run sc n_X9_parse 94 [aD p0, aI x1, aD p2] none (v.toList ++ []) z) (fun E z => some (.inr E, z))) := by
  refine (s_go mt_X9_parse dX9_parse_90 rfl).trans ?_
  exact q_cV mt_X9_parse dX9_parse_91 rfl mt_X6_appendAll rfl rfl rfl
theorem e_X9_parse_7 (sc : SC) (p0 : Nat) (v1 : AV) (v2 : AV) (y0 : Int32) (h : AH) : Run sc n_X9_parse 7 [aD p0, v1, v2] none [aI y0] h = bF (getF sc h (aD p0) 11 0) (fun z => Run sc n_X9_parse 12 [aD p0, aI y0, v2] none [z] h) := by
  refine (s_go mt_X9_parse dX9_parse_7 rfl).trans ?_
  refine (s_go mt_X9_parse dX9_parse_8 rfl).trans ?_
  exact q_getfield mt_X9_parse dX9_parse_9 rfl
theorem e_X9_parse_29 (sc : SC) (p0 : Nat) (x1 : Int32) (v2 : AV) (y0 : Int32) (y1 : Int32) (h : AH) : Run sc n_X9_parse 29 [aD p0, aI x1, v2] none [aI y1, aI y0] h = some (.inl (some (aI (y0 - y1))), h) := by
  refine (s_go mt_X9_parse dX9_parse_29 rfl).trans ?_
  exact q_ret (c := (some (aI (y0 - y1)), h)) mt_X9_parse dX9_parse_30 rfl
theorem e_X9_parse_38 (sc : SC) (p0 : Nat) (x1 : Int32) (v2 : AV) (q0 : Nat) (h : AH) : Run sc n_X9_parse 38 [aD p0, aI x1, v2] none [aD q0] h = bF (getF sc h (aD p0) 11 0) (fun z => Run sc n_X9_parse 43 [aD p0, aI x1, aD q0] none [z] h) := by
  refine (s_go mt_X9_parse dX9_parse_38 rfl).trans ?_
  refine (s_go mt_X9_parse dX9_parse_39 rfl).trans ?_
  exact q_getfield mt_X9_parse dX9_parse_40 rfl
theorem e_X9_parse_66 (sc : SC) (p0 : Nat) (x1 : Int32) (p2 : Nat) (y0 : Int32) (h : AH) : Run sc n_X9_parse 66 [aD p0, aI x1, aD p2] none [aI y0] h = bF (getF sc h (aD p2) 8 1) (fun z => Run sc n_X9_parse 70 [aD p0, aI x1, aD p2] none [z, aI y0] h) := by
  refine (s_go mt_X9_parse dX9_parse_66 rfl).trans ?_
  exact q_getfield mt_X9_parse dX9_parse_67 rfl
theorem e_X9_parse_94 (sc : SC) (p0 : Nat) (x1 : Int32) (p2 : Nat) (h : AH) : Run sc n_X9_parse 94 [aD p0, aI x1, aD p2] none [] h = bF (getF sc h (aD p2) 8 1) (fun z => Run sc n_X9_parse 98 [aD p0, aI x1, aD p2] none [z] h) := by
  refine (s_go mt_X9_parse dX9_parse_94 rfl).trans ?_
  exact q_getfield mt_X9_parse dX9_parse_95 rfl
theorem e_X9_parse_12 (sc : SC) (p0 : Nat) (x1 : Int32) (v2 : AV) (q0 : Nat) (h : AH) : Run sc n_X9_parse 12 [aD p0, aI x1, v2] none [aD q0] h = bO (putF h q0 9 1 0 (aI (nI 0))) (fun z => Run sc n_X9_parse 16 [aD p0, aI x1, v2] none [] z) := by
  refine (s_go mt_X9_parse dX9_parse_12 rfl).trans ?_
  exact q_putfield mt_X9_parse dX9_parse_13 rfl rfl rfl rfl
theorem e_X9_parse_43 (sc : SC) (p0 : Nat) (x1 : Int32) (p2 : Nat) (q0 : Nat) (h : AH) : Run sc n_X9_parse 43 [aD p0, aI x1, aD p2] none [aD q0] h = bI (rOK sc h (aD q0) 9 = true) (bC (Call sc n_X7_isInRange [aD q0] h) (fun v z => Run sc n_X9_parse 46 [aD p0, aI x1, aD p2] none (v.toList ++ []) z) (fun E z => some (.inr E, z))) := by
  exact q_cV mt_X9_parse dX9_parse_43 rfl mt_X7_isInRange rfl rfl rfl
theorem e_X9_parse_70 (sc : SC) (p0 : Nat) (x1 : Int32) (p2 : Nat) (y0 : Int32) (y1 : Int32) (h : AH) : Run sc n_X9_parse 70 [aD p0, aI x1, aD p2] none [aI y1, aI y0] h = Run sc n_X9_parse (if (y0 + y1) ≤ (nI 30) then 86 else 76) [aD p0, aI x1, aD p2] none [] h := by
  refine (s_go mt_X9_parse dX9_parse_70 rfl).trans ?_
  refine (s_go mt_X9_parse dX9_parse_71 rfl).trans ?_
  exact q_icmp mt_X9_parse dX9_parse_73 (fun _ _ _ _ => rfl) rfl
theorem e_X9_parse_98 (sc : SC) (p0 : Nat) (x1 : Int32) (p2 : Nat) (y0 : Int32) (h : AH) : Run sc n_X9_parse 98 [aD p0, aI x1, aD p2] none [aI y0] h = some (.inl (some (aI y0)), h) := by
  exact q_ret (c := (some (aI y0), h)) mt_X9_parse dX9_parse_98 rfl
theorem e_X9_parse_16 (sc : SC) (p0 : Nat) (x1 : Int32) (v2 : AV) (h : AH) : Run sc n_X9_parse 16 [aD p0, aI x1, v2] none [] h = Run sc n_X9_parse (if ¬ x1 = 0 then 31 else 20) [aD p0, aI x1, v2] none [] h := by
  refine (s_go mt_X9_parse dX9_parse_16 rfl).trans ?_
  exact q_if mt_X9_parse dX9_parse_17 (fun _ _ _ _ => rfl) rfl
theorem e_X9_parse_46 (sc : SC) (p0 : Nat) (x1 : Int32) (p2 : Nat) (y0 : Int32) (h : AH) : Run sc n_X9_parse 46 [aD p0, aI x1, aD p2] none [aI y0] h = Run sc n_X9_parse (if ¬ y0 = 0 then 59 else 49) [aD p0, aI x1, aD p2] none [] h := by
  exact q_if mt_X9_parse dX9_parse_46 (fun _ _ _ _ => rfl) rfl
/-! BranchSlotFiller.clear()I -/
theorem e_X9_clear_0 (sc : SC) (p0 : Nat) (v1 : AV) (h : AH) : Run sc n_X9_clear 0 [aD p0, v1] none [] h = bF (getF sc h (aD p0) 11 2) (fun z => Run sc n_X9_clear 4 [aD p0, v1] none [z] h) := by
  refine (s_go mt_X9_clear dX9_clear_0 rfl).trans ?_
  exact q_getfield mt_X9_clear dX9_clear_1 rfl
theorem e_X9_clear_4 (sc : SC) (p0 : Nat) (v1 : AV) (q0 : Nat) (h : AH) : Run sc n_X9_clear 4 [aD p0, v1] none [aD q0] h = bF (getF sc h (aD q0) 8 1) (fun z => Run sc n_X9_clear 7 [aD p0, v1] none [z] h) := by
  exact q_getfield mt_X9_clear dX9_clear_4 rfl
theorem e_X9_clear_7 (sc : SC) (p0 : Nat) (v1 : AV) (y0 : Int32) (h : AH) : Run sc n_X9_clear 7 [aD p0, v1] none [aI y0] h = bF (getF sc h (aD p0) 11 2) (fun z => Run sc n_X9_clear 12 [aD p0, aI y0] none [z] h) := by
  refine (s_go mt_X9_clear dX9_clear_7 rfl).trans ?_
  refine (s_go mt_X9_clear dX9_clear_8 rfl).trans ?_
  exact q_getfield mt_X9_clear dX9_clear_9 rfl
theorem e_X9_clear_12 (sc : SC) (p0 : Nat) (x1 : Int32) (q0 : Nat) (h : AH) : Run sc n_X9_clear 12 [aD p0, aI x1] none [aD q0] h = bO (putF h q0 8 1 0 (aI (nI 0))) (fun z => Run sc n_X9_clear 16 [aD p0, aI x1] none [] z) := by
  refine (s_go mt_X9_clear dX9_clear_12 rfl).trans ?_
  exact q_putfield mt_X9_clear dX9_clear_13 rfl rfl rfl rfl
theorem e_X9_clear_16 (sc : SC) (p0 : Nat) (x1 : Int32) (h : AH) : Run sc n_X9_clear 16 [aD p0, aI x1] none [] h = some (.inl (some (aI x1)), h) := by
  refine (s_go mt_X9_clear dX9_clear_16 rfl).trans ?_
  exact q_ret (c := (some (aI x1), h)) mt_X9_clear dX9_clear_17 rfl
/-! BranchSlotFiller.instructions()I -/
theorem e_X9_instructions_0 (sc : SC) (p0 : Nat) (h : AH) : Run sc n_X9_instructions 0 [aD p0] none [] h = bF (getF sc h (aD p0) 11 2) (fun z => Run sc n_X9_instructions 4 [aD p0] none [z] h) := by
  refine (s_go mt_X9_instructions dX9_instructions_0 rfl).trans ?_
  exact q_getfield mt_X9_instructions dX9_instructions_1 rfl
theorem e_X9_instructions_4 (sc : SC) (p0 : Nat) (q0 : Nat) (h : AH) : Run sc n_X9_instructions 4 [aD p0] none [aD q0] h = bF (getF sc h (aD q0) 8 1) (fun z => Run sc n_X9_instructions 7 [aD p0] none [z] h) := by
  exact q_getfield mt_X9_instructions dX9_instructions_4 rfl
theorem e_X9_instructions_7 (sc : SC) (p0 : Nat) (y0 : Int32) (h : AH) : Run sc n_X9_instructions 7 [aD p0] none [aI y0] h = some (.inl (some (aI y0)), h) := by
  exact q_ret (c := (some (aI y0), h)) mt_X9_instructions dX9_instructions_7 rfl
/-! BranchSlotFiller.instruction(II)I -/
theorem e_X9_instruction_0 (sc : SC) (p0 : Nat) (x1 : Int32) (x2 : Int32) (h : AH) : Run sc n_X9_instruction 0 [aD p0, aI x1, aI x2] none [] h = bF (getF sc h (aD p0) 11 2) (fun z => Run sc n_X9_instruction 4 [aD p0, aI x1, aI x2] none [z] h) := by
  refine (s_go mt_X9_instruction dX9_instruction_0 rfl).trans ?_
  exact q_getfield mt_X9_instruction dX9_instruction_1 rfl
theorem e_X9_instruction_11 (sc : SC) (p0 : Nat) (x1 : Int32) (x2 : Int32) (h : AH) : Run sc n_X9_instruction 11 [aD p0, aI x1, aI x2] none [] h = some (.inr 2, (h.1, h.2 + 1)) := by
  exact q_new mt_X9_instruction dX9_instruction_11 rfl (throwA_S rfl (Nat.le_of_ble_eq_true rfl) dX9_instruction_14 dX9_instruction_15 dX9_instruction_17 dX9_instruction_20 rfl rfl)
theorem e_X9_instruction_21 (sc : SC) (p0 : Nat) (x1 : Int32) (x2 : Int32) (h : AH) : Run sc n_X9_instruction 21 [aD p0, aI x1, aI x2] none [] h = Run sc n_X9_instruction (if x2 < 0 then 30 else 25) [aD p0, aI x1, aI x2] none [] h := by
  refine (s_go mt_X9_instruction dX9_instruction_21 rfl).trans ?_
  exact q_if mt_X9_instruction dX9_instruction_22 (fun _ _ _ _ => rfl) rfl
theorem e_X9_instruction_25 (sc : SC) (p0 : Nat) (x1 : Int32) (x2 : Int32) (h : AH) : Run sc n_X9_instruction 25 [aD p0, aI x1, aI x2] none [] h = Run sc n_X9_instruction (if x2 ≤ (nI 3) then 40 else 30) [aD p0, aI x1, aI x2] none [] h := by
  refine (s_go mt_X9_instruction dX9_instruction_25 rfl).trans ?_
  refine (s_go mt_X9_instruction dX9_instruction_26 rfl).trans ?_
  exact q_icmp mt_X9_instruction dX9_instruction_27 (fun _ _ _ _ => rfl) rfl
theorem e_X9_instruction_30 (sc : SC) (p0 : Nat) (x1 : Int32) (x2 : Int32) (h : AH) : Run sc n_X9_instruction 30 [aD p0, aI x1, aI x2] none [] h = some (.inr 1, (h.1, h.2 + 1)) := by
  exact q_new mt_X9_instruction dX9_instruction_30 rfl (throwA_S rfl (Nat.le_of_ble_eq_true rfl) dX9_instruction_33 dX9_instruction_34 dX9_instruction_36 dX9_instruction_39 rfl rfl)
theorem e_X9_instruction_40 (sc : SC) (p0 : Nat) (x1 : Int32) (x2 : Int32) (h : AH) : Run sc n_X9_instruction 40 [aD p0, aI x1, aI x2] none [] h = bF (getF sc h (aD p0) 11 2) (fun z => Run sc n_X9_instruction 44 [aD p0, aI x1, aI x2] none [z] h) := by
  refine (s_go mt_X9_instruction dX9_instruction_40 rfl).trans ?_
  exact q_getfield mt_X9_instruction dX9_instruction_41 rfl
theorem e_X9_instruction_4 (sc : SC) (p0 : Nat) (x1 : Int32) (x2 : Int32) (q0 : Nat) (h : AH) : Run sc n_X9_instruction 4 [aD p0, aI x1, aI x2] none [aD q0] h = bI (rOK sc h (aD q0) 8 = true) (bC (Call sc n_X6_has [aD q0, aI x1] h) (fun v z => Run sc n_X9_instruction 8 [aD p0, aI x1, aI x2] none (v.toList ++ []) z) (fun E z => some (.inr E, z))) := by
  refine (s_go mt_X9_instruction dX9_instruction_4 rfl).trans ?_
  exact q_cV mt_X9_instruction dX9_instruction_5 rfl mt_X6_has rfl rfl rfl
theorem e_X9_instruction_44 (sc : SC) (p0 : Nat) (x1 : Int32) (x2 : Int32) (q0 : Nat) (h : AH) : Run sc n_X9_instruction 44 [aD p0, aI x1, aI x2] none [aD q0] h = bI (rOK sc h (aD q0) 8 = true) (bC (Call sc n_X6_part [aD q0, aI x1, aI x2] h) (fun v z => Run sc n_X9_instruction 49 [aD p0, aI x1, aI x2] none (v.toList ++ []) z) (fun E z => some (.inr E, z))) := by
  refine (s_go mt_X9_instruction dX9_instruction_44 rfl).trans ?_
  refine (s_go mt_X9_instruction dX9_instruction_45 rfl).trans ?_
  exact q_cV mt_X9_instruction dX9_instruction_46 rfl mt_X6_part rfl rfl rfl
theorem e_X9_instruction_8 (sc : SC) (p0 : Nat) (x1 : Int32) (x2 : Int32) (y0 : Int32) (h : AH) : Run sc n_X9_instruction 8 [aD p0, aI x1, aI x2] none [aI y0] h = Run sc n_X9_instruction (if ¬ y0 = 0 then 21 else 11) [aD p0, aI x1, aI x2] none [] h := by
  exact q_if mt_X9_instruction dX9_instruction_8 (fun _ _ _ _ => rfl) rfl
theorem e_X9_instruction_49 (sc : SC) (p0 : Nat) (x1 : Int32) (x2 : Int32) (y0 : Int32) (h : AH) : Run sc n_X9_instruction 49 [aD p0, aI x1, aI x2] none [aI y0] h = some (.inl (some (aI y0)), h) := by
  exact q_ret (c := (some (aI y0), h)) mt_X9_instruction dX9_instruction_49 rfl
/-! BranchSlotFiller.expand()I -/
theorem e_X9_expand_0 (sc : SC) (p0 : Nat) (h : AH) : Run sc n_X9_expand 0 [aD p0] none [] h = bF (getF sc h (aD p0) 11 6) (fun z => Run sc n_X9_expand 4 [aD p0] none [z] h) := by
  refine (s_go mt_X9_expand dX9_expand_0 rfl).trans ?_
  exact q_getfield mt_X9_expand dX9_expand_1 rfl
theorem e_X9_expand_4 (sc : SC) (p0 : Nat) (q0 : Nat) (h : AH) : Run sc n_X9_expand 4 [aD p0] none [aD q0] h = bF (getF sc h (aD p0) 11 3) (fun z => Run sc n_X9_expand 8 [aD p0] none [z, aD q0] h) := by
  refine (s_go mt_X9_expand dX9_expand_4 rfl).trans ?_
  exact q_getfield mt_X9_expand dX9_expand_5 rfl
theorem e_X9_expand_8 (sc : SC) (p0 : Nat) (q0 : Nat) (q1 : Nat) (h : AH) : Run sc n_X9_expand 8 [aD p0] none [aD q1, aD q0] h = bI (rOK sc h (aD q0) 6 = true) (bC (Call sc n_X3_remember [aD q0, aD q1] h) (fun v z => Run sc n_X9_expand 11 [aD p0] none (v.toList ++ []) z) (fun E z => some (.inr E, z))) := by
  exact q_cV mt_X9_expand dX9_expand_8 rfl mt_X3_remember rfl rfl rfl
theorem e_X9_expand_11 (sc : SC) (p0 : Nat) (h : AH) : Run sc n_X9_expand 11 [aD p0] none [] h = bF (getF sc h (aD p0) 11 3) (fun z => Run sc n_X9_expand 15 [aD p0] none [z] h) := by
  refine (s_go mt_X9_expand dX9_expand_11 rfl).trans ?_
  exact q_getfield mt_X9_expand dX9_expand_12 rfl
theorem e_X9_expand_15 (sc : SC) (p0 : Nat) (q0 : Nat) (h : AH) : Run sc n_X9_expand 15 [aD p0] none [aD q0] h = bF (getF sc h (aD p0) 11 2) (fun z => Run sc n_X9_expand 19 [aD p0] none [z, aD q0] h) := by
  refine (s_go mt_X9_expand dX9_expand_15 rfl).trans ?_
  exact q_getfield mt_X9_expand dX9_expand_16 rfl
theorem e_X9_expand_19 (sc : SC) (p0 : Nat) (q0 : Nat) (q1 : Nat) (h : AH) : Run sc n_X9_expand 19 [aD p0] none [aD q1, aD q0] h = bI (rOK sc h (aD q0) 8 = true) (bC (Call sc n_X6_expandFrom [aD q0, aD q1] h) (fun v z => Run sc n_X9_expand 22 [aD p0] none (v.toList ++ []) z) (fun E z => some (.inr E, z))) := by
  exact q_cV mt_X9_expand dX9_expand_19 rfl mt_X6_expandFrom rfl rfl rfl
theorem e_X9_expand_22 (sc : SC) (p0 : Nat) (h : AH) : Run sc n_X9_expand 22 [aD p0] none [] h = bF (getF sc h (aD p0) 11 3) (fun z => Run sc n_X9_expand 26 [aD p0] none [z] h) := by
  refine (s_go mt_X9_expand dX9_expand_22 rfl).trans ?_
  exact q_getfield mt_X9_expand dX9_expand_23 rfl
theorem e_X9_expand_26 (sc : SC) (p0 : Nat) (q0 : Nat) (h : AH) : Run sc n_X9_expand 26 [aD p0] none [aD q0] h = bF (getF sc h (aD q0) 8 1) (fun z => Run sc n_X9_expand 29 [aD p0] none [z] h) := by
  exact q_getfield mt_X9_expand dX9_expand_26 rfl
theorem e_X9_expand_29 (sc : SC) (p0 : Nat) (y0 : Int32) (h : AH) : Run sc n_X9_expand 29 [aD p0] none [aI y0] h = some (.inl (some (aI y0)), h) := by
  exact q_ret (c := (some (aI y0), h)) mt_X9_expand dX9_expand_29 rfl
/-! BranchSlotFiller.entries()I -/
theorem e_X9_entries_0 (sc : SC) (p0 : Nat) (h : AH) : Run sc n_X9_entries 0 [aD p0] none [] h = bF (getF sc h (aD p0) 11 3) (fun z => Run sc n_X9_entries 4 [aD p0] none [z] h) := by
  refine (s_go mt_X9_entries dX9_entries_0 rfl).trans ?_
  exact q_getfield mt_X9_entries dX9_entries_1 rfl
theorem e_X9_entries_4 (sc : SC) (p0 : Nat) (q0 : Nat) (h : AH) : Run sc n_X9_entries 4 [aD p0] none [aD q0] h = bF (getF sc h (aD q0) 8 1) (fun z => Run sc n_X9_entries 7 [aD p0] none [z] h) := by
  exact q_getfield mt_X9_entries dX9_entries_4 rfl
theorem e_X9_entries_7 (sc : SC) (p0 : Nat) (y0 : Int32) (h : AH) : Run sc n_X9_entries 7 [aD p0] none [aI y0] h = some (.inl (some (aI y0)), h) := by
  exact q_ret (c := (some (aI y0), h)) mt_X9_entries dX9_entries_7 rfl
/-! BranchSlotFiller.entry(II)I -/
theorem e_X9_entry_0 (sc : SC) (p0 : Nat) (x1 : Int32) (x2 : Int32) (h : AH) : Run sc n_X9_entry 0 [aD p0, aI x1, aI x2] none [] h = bF (getF sc h (aD p0) 11 3) (fun z => Run sc n_X9_entry 4 [aD p0, aI x1, aI x2] none [z] h) := by
  refine (s_go mt_X9_entry dX9_entry_0 rfl).trans ?_
  exact q_getfield mt_X9_entry dX9_entry_1 rfl
theorem e_X9_entry_11 (sc : SC) (p0 : Nat) (x1 : Int32) (x2 : Int32) (h : AH) : Run sc n_X9_entry 11 [aD p0, aI x1, aI x2] none [] h = some (.inr 2, (h.1, h.2 + 1)) := by
  exact q_new mt_X9_entry dX9_entry_11 rfl (throwA_S rfl (Nat.le_of_ble_eq_true rfl) dX9_entry_14 dX9_entry_15 dX9_entry_17 dX9_entry_20 rfl rfl)
theorem e_X9_entry_21 (sc : SC) (p0 : Nat) (x1 : Int32) (x2 : Int32) (h : AH) : Run sc n_X9_entry 21 [aD p0, aI x1, aI x2] none [] h = Run sc n_X9_entry (if (x2).toInt < 0 ∨ 6 < (x2).toInt then 110 else ([64, 64, 64, 64, 74, 91, 101] : List Nat).getD ((x2).toInt - 0).toNat 0) [aD p0, aI x1, aI x2] none [] h := by
  refine (s_go mt_X9_entry dX9_entry_21 rfl).trans ?_
  exact q_table (pc := 22) (T := [64, 64, 64, 64, 74, 91, 101]) mt_X9_entry dX9_entry_22 rfl (by decide +kernel)
theorem e_X9_entry_64 (sc : SC) (p0 : Nat) (x1 : Int32) (x2 : Int32) (h : AH) : Run sc n_X9_entry 64 [aD p0, aI x1, aI x2] none [] h = bF (getF sc h (aD p0) 11 3) (fun z => Run sc n_X9_entry 68 [aD p0, aI x1, aI x2] none [z] h) := by
  refine (s_go mt_X9_entry dX9_entry_64 rfl).trans ?_
  exact q_getfield mt_X9_entry dX9_entry_65 rfl
theorem e_X9_entry_74 (sc : SC) (p0 : Nat) (x1 : Int32) (x2 : Int32) (h : AH) : Run sc n_X9_entry 74 [aD p0, aI x1, aI x2] none [] h = bF (getF sc h (aD p0) 11 3) (fun z => Run sc n_X9_entry 78 [aD p0, aI x1, aI x2] none [z] h) := by
  refine (s_go mt_X9_entry dX9_entry_74 rfl).trans ?_
  exact q_getfield mt_X9_entry dX9_entry_75 rfl
theorem e_X9_entry_85 (sc : SC) (p0 : Nat) (x1 : Int32) (x2 : Int32) (h : AH) : Run sc n_X9_entry 85 [aD p0, aI x1, aI x2] none [] h = Run sc n_X9_entry 90 [aD p0, aI x1, aI x2] none [aI (nI 1)] h := by
  refine (s_go mt_X9_entry dX9_entry_85 rfl).trans ?_
  refine (s_go mt_X9_entry dX9_entry_86 rfl).trans ?_
  exact rfl
theorem e_X9_entry_89 (sc : SC) (p0 : Nat) (x1 : Int32) (x2 : Int32) (h : AH) : Run sc n_X9_entry 89 [aD p0, aI x1, aI x2] none [] h = Run sc n_X9_entry 90 [aD p0, aI x1, aI x2] none [aI (nI 0)] h := by
  refine (s_go mt_X9_entry dX9_entry_89 rfl).trans ?_
  exact rfl
theorem e_X9_entry_90 (sc : SC) (p0 : Nat) (x1 : Int32) (x2 : Int32) (y0 : Int32) (h : AH) : Run sc n_X9_entry 90 [aD p0, aI x1, aI x2] none [aI y0] h = some (.inl (some (aI y0)), h) := by
  exact q_ret (c := (some (aI y0), h)) mt_X9_entry dX9_entry_90 rfl
theorem e_X9_entry_91 (sc : SC) (p0 : Nat) (x1 : Int32) (x2 : Int32) (h : AH) : Run sc n_X9_entry 91 [aD p0, aI x1, aI x2] none [] h = bF (getF sc h (aD p0) 11 3) (fun z => Run sc n_X9_entry 95 [aD p0, aI x1, aI x2] none [z] h) := by
  refine (s_go mt_X9_entry dX9_entry_91 rfl).trans ?_
  exact q_getfield mt_X9_entry dX9_entry_92 rfl
theorem e_X9_entry_101 (sc : SC) (p0 : Nat) (x1 : Int32) (x2 : Int32) (h : AH) : Run sc n_X9_entry 101 [aD p0, aI x1, aI x2] none [] h = bF (getF sc h (aD p0) 11 3) (fun z => Run sc n_X9_entry 105 [aD p0, aI x1, aI x2] none [z] h) := by
  refine (s_go mt_X9_entry dX9_entry_101 rfl).trans ?_
  exact q_getfield mt_X9_entry dX9_entry_102 rfl
theorem e_X9_entry_110 (sc : SC) (p0 : Nat) (x1 : Int32) (x2 : Int32) (h : AH) : Run sc n_X9_entry 110 [aD p0, aI x1, aI x2] none [] h = some (.inr 1, (h.1, h.2 + 1)) := by
  exact q_new mt_X9_entry dX9_entry_110 rfl (throwA_S rfl (Nat.le_of_ble_eq_true rfl) dX9_entry_113 dX9_entry_114 dX9_entry_116 dX9_entry_119 rfl rfl)
theorem e_X9_entry_4 (sc : SC) (p0 : Nat) (x1 : Int32) (x2 : Int32) (q0 : Nat) (h : AH) : Run sc n_X9_entry 4 [aD p0, aI x1, aI x2] none [aD q0] h = bI (rOK sc h (aD q0) 8 = true) (bC (Call sc n_X6_has [aD q0, aI x1] h) (fun v z => Run sc n_X9_entry 8 [aD p0, aI x1, aI x2] none (v.toList ++ []) z) (fun E z => some (.inr E, z))) := by
  refine (s_go mt_X9_entry dX9_entry_4 rfl).trans ?_
  exact q_cV mt_X9_entry dX9_entry_5 rfl mt_X6_has rfl rfl rfl
theorem e_X9_entry_68 (sc : SC) (p0 : Nat) (x1 : Int32) (x2 : Int32) (q0 : Nat) (h : AH) : Run sc n_X9_entry 68 [aD p0, aI x1, aI x2] none [aD q0] h = bI (rOK sc h (aD q0) 8 = true) (bC (Call sc n_X6_part [aD q0, aI x1, aI x2] h) (fun v z => Run sc n_X9_entry 73 [aD p0, aI x1, aI x2] none (v.toList ++ []) z) (fun E z => some (.inr E, z))) := by
  refine (s_go mt_X9_entry dX9_entry_68 rfl).trans ?_
  refine (s_go mt_X9_entry dX9_entry_69 rfl).trans ?_
  exact q_cV mt_X9_entry dX9_entry_70 rfl mt_X6_part rfl rfl rfl
theorem e_X9_entry_78 (sc : SC) (p0 : Nat) (x1 : Int32) (x2 : Int32) (q0 : Nat) (h : AH) : Run sc n_X9_entry 78 [aD p0, aI x1, aI x2] none [aD q0] h = bI (rOK sc h (aD q0) 8 = true) (bC (Call sc n_X6_isSlot [aD q0, aI x1] h) (fun v z => Run sc n_X9_entry 82 [aD p0, aI x1, aI x2] none (v.toList ++ []) z) (fun E z => some (.inr E, z))) := by
  refine (s_go mt_X9_entry dX9_entry_78 rfl).trans ?_
  exact q_cV mt_X9_entry dX9_entry_79 rfl mt_X6_isSlot rfl rfl rfl
theorem e_X9_entry_95 (sc : SC) (p0 : Nat) (x1 : Int32) (x2 : Int32) (q0 : Nat) (h : AH) : Run sc n_X9_entry 95 [aD p0, aI x1, aI x2] none [aD q0] h = bI (rOK sc h (aD q0) 8 = true) (bC (Call sc n_X6_part [aD q0, aI x1, aI (nI 4)] h) (fun v z => Run sc n_X9_entry 100 [aD p0, aI x1, aI x2] none (v.toList ++ []) z) (fun E z => some (.inr E, z))) := by
  refine (s_go mt_X9_entry dX9_entry_95 rfl).trans ?_
  refine (s_go mt_X9_entry dX9_entry_96 rfl).trans ?_
  exact q_cV mt_X9_entry dX9_entry_97 rfl mt_X6_part rfl rfl rfl
theorem e_X9_entry_105 (sc : SC) (p0 : Nat) (x1 : Int32) (x2 : Int32) (q0 : Nat) (h : AH) : Run sc n_X9_entry 105 [aD p0, aI x1, aI x2] none [aD q0] h = bI (rOK sc h (aD q0) 8 = true) (bC (Call sc n_X6_branchesTo [aD q0, aI x1] h) (fun v z => Run sc n_X9_entry 109 [aD p0, aI x1, aI x2] none (v.toList ++ []) z) (fun E z => some (.inr E, z))) := by
  refine (s_go mt_X9_entry dX9_entry_105 rfl).trans ?_
  exact q_cV mt_X9_entry dX9_entry_106 rfl mt_X6_branchesTo rfl rfl rfl
theorem e_X9_entry_8 (sc : SC) (p0 : Nat) (x1 : Int32) (x2 : Int32) (y0 : Int32) (h : AH) : Run sc n_X9_entry 8 [aD p0, aI x1, aI x2] none [aI y0] h = Run sc n_X9_entry (if ¬ y0 = 0 then 21 else 11) [aD p0, aI x1, aI x2] none [] h := by
  exact q_if mt_X9_entry dX9_entry_8 (fun _ _ _ _ => rfl) rfl
theorem e_X9_entry_73 (sc : SC) (p0 : Nat) (x1 : Int32) (x2 : Int32) (y0 : Int32) (h : AH) : Run sc n_X9_entry 73 [aD p0, aI x1, aI x2] none [aI y0] h = some (.inl (some (aI y0)), h) := by
  exact q_ret (c := (some (aI y0), h)) mt_X9_entry dX9_entry_73 rfl
theorem e_X9_entry_82 (sc : SC) (p0 : Nat) (x1 : Int32) (x2 : Int32) (y0 : Int32) (h : AH) : Run sc n_X9_entry 82 [aD p0, aI x1, aI x2] none [aI y0] h = Run sc n_X9_entry (if y0 = 0 then 89 else 85) [aD p0, aI x1, aI x2] none [] h := by
  exact q_if mt_X9_entry dX9_entry_82 (fun _ _ _ _ => rfl) rfl
theorem e_X9_entry_100 (sc : SC) (p0 : Nat) (x1 : Int32) (x2 : Int32) (y0 : Int32) (h : AH) : Run sc n_X9_entry 100 [aD p0, aI x1, aI x2] none [aI y0] h = some (.inl (some (aI y0)), h) := by
  exact q_ret (c := (some (aI y0), h)) mt_X9_entry dX9_entry_100 rfl
theorem e_X9_entry_109 (sc : SC) (p0 : Nat) (x1 : Int32) (x2 : Int32) (y0 : Int32) (h : AH) : Run sc n_X9_entry 109 [aD p0, aI x1, aI x2] none [aI y0] h = some (.inl (some (aI y0)), h) := by
  exact q_ret (c := (some (aI y0), h)) mt_X9_entry dX9_entry_109 rfl
/-! BranchSlotFiller.count(I)I -/
theorem e_X9_count_0 (sc : SC) (p0 : Nat) (x1 : Int32) (h : AH) : Run sc n_X9_count 0 [aD p0, aI x1] none [] h = Run sc n_X9_count (if (x1).toInt < 0 ∨ 4 < (x1).toInt then 76 else ([36, 44, 52, 60, 68] : List Nat).getD ((x1).toInt - 0).toNat 0) [aD p0, aI x1] none [] h := by
  refine (s_go mt_X9_count dX9_count_0 rfl).trans ?_
  exact q_table (pc := 1) (T := [36, 44, 52, 60, 68]) mt_X9_count dX9_count_1 rfl (by decide +kernel)
theorem e_X9_count_36 (sc : SC) (p0 : Nat) (x1 : Int32) (h : AH) : Run sc n_X9_count 36 [aD p0, aI x1] none [] h = bF (getF sc h (aD p0) 11 3) (fun z => Run sc n_X9_count 40 [aD p0, aI x1] none [z] h) := by
  refine (s_go mt_X9_count dX9_count_36 rfl).trans ?_
  exact q_getfield mt_X9_count dX9_count_37 rfl
theorem e_X9_count_44 (sc : SC) (p0 : Nat) (x1 : Int32) (h : AH) : Run sc n_X9_count 44 [aD p0, aI x1] none [] h = bF (getF sc h (aD p0) 11 3) (fun z => Run sc n_X9_count 48 [aD p0, aI x1] none [z] h) := by
  refine (s_go mt_X9_count dX9_count_44 rfl).trans ?_
  exact q_getfield mt_X9_count dX9_count_45 rfl
theorem e_X9_count_52 (sc : SC) (p0 : Nat) (x1 : Int32) (h : AH) : Run sc n_X9_count 52 [aD p0, aI x1] none [] h = bF (getF sc h (aD p0) 11 3) (fun z => Run sc n_X9_count 56 [aD p0, aI x1] none [z] h) := by
  refine (s_go mt_X9_count dX9_count_52 rfl).trans ?_
  exact q_getfield mt_X9_count dX9_count_53 rfl
theorem e_X9_count_60 (sc : SC) (p0 : Nat) (x1 : Int32) (h : AH) : Run sc n_X9_count 60 [aD p0, aI x1] none [] h = bF (getF sc h (aD p0) 11 3) (fun z => Run sc n_X9_count 64 [aD p0, aI x1] none [z] h) := by
  refine (s_go mt_X9_count dX9_count_60 rfl).trans ?_
  exact q_getfield mt_X9_count dX9_count_61 rfl
theorem e_X9_count_68 (sc : SC) (p0 : Nat) (x1 : Int32) (h : AH) : Run sc n_X9_count 68 [aD p0, aI x1] none [] h = bF (getF sc h (aD p0) 11 4) (fun z => Run sc n_X9_count 72 [aD p0, aI x1] none [z] h) := by
  refine (s_go mt_X9_count dX9_count_68 rfl).trans ?_
  exact q_getfield mt_X9_count dX9_count_69 rfl
theorem e_X9_count_76 (sc : SC) (p0 : Nat) (x1 : Int32) (h : AH) : Run sc n_X9_count 76 [aD p0, aI x1] none [] h = some (.inr 1, (h.1, h.2 + 1)) := by
  exact q_new mt_X9_count dX9_count_76 rfl (throwA_S rfl (Nat.le_of_ble_eq_true rfl) dX9_count_79 dX9_count_80 dX9_count_82 dX9_count_85 rfl rfl)
theorem e_X9_count_40 (sc : SC) (p0 : Nat) (x1 : Int32) (q0 : Nat) (h : AH) : Run sc n_X9_count 40 [aD p0, aI x1] none [aD q0] h = bI (rOK sc h (aD q0) 8 = true) (bC (Call sc n_X6_branches [aD q0] h) (fun v z => Run sc n_X9_count 43 [aD p0, aI x1] none (v.toList ++ []) z) (fun E z => some (.inr E, z))) := by
  exact q_cV mt_X9_count dX9_count_40 rfl mt_X6_branches rfl rfl rfl
theorem e_X9_count_48 (sc : SC) (p0 : Nat) (x1 : Int32) (q0 : Nat) (h : AH) : Run sc n_X9_count 48 [aD p0, aI x1] none [aD q0] h = bI (rOK sc h (aD q0) 8 = true) (bC (Call sc n_X6_emptySlots [aD q0] h) (fun v z => Run sc n_X9_count 51 [aD p0, aI x1] none (v.toList ++ []) z) (fun E z => some (.inr E, z))) := by
  exact q_cV mt_X9_count dX9_count_48 rfl mt_X6_emptySlots rfl rfl rfl
theorem e_X9_count_56 (sc : SC) (p0 : Nat) (x1 : Int32) (q0 : Nat) (h : AH) : Run sc n_X9_count 56 [aD p0, aI x1] none [aD q0] h = bI (rOK sc h (aD q0) 8 = true) (bC (Call sc n_X6_annullingBranches [aD q0] h) (fun v z => Run sc n_X9_count 59 [aD p0, aI x1] none (v.toList ++ []) z) (fun E z => some (.inr E, z))) := by
  exact q_cV mt_X9_count dX9_count_56 rfl mt_X6_annullingBranches rfl rfl rfl
theorem e_X9_count_64 (sc : SC) (p0 : Nat) (x1 : Int32) (q0 : Nat) (h : AH) : Run sc n_X9_count 64 [aD p0, aI x1] none [aD q0] h = bI (rOK sc h (aD q0) 8 = true) (bC (Call sc n_X6_nops [aD q0] h) (fun v z => Run sc n_X9_count 67 [aD p0, aI x1] none (v.toList ++ []) z) (fun E z => some (.inr E, z))) := by
  exact q_cV mt_X9_count dX9_count_64 rfl mt_X6_nops rfl rfl rfl
theorem e_X9_count_72 (sc : SC) (p0 : Nat) (x1 : Int32) (q0 : Nat) (h : AH) : Run sc n_X9_count 72 [aD p0, aI x1] none [aD q0] h = bI (rOK sc h (aD q0) 5 = true) (bC (Call sc n_X2_unreachable [aD q0] h) (fun v z => Run sc n_X9_count 75 [aD p0, aI x1] none (v.toList ++ []) z) (fun E z => some (.inr E, z))) := by
  exact q_cV mt_X9_count dX9_count_72 rfl mt_X2_unreachable rfl rfl rfl
theorem e_X9_count_43 (sc : SC) (p0 : Nat) (x1 : Int32) (y0 : Int32) (h : AH) : Run sc n_X9_count 43 [aD p0, aI x1] none [aI y0] h = some (.inl (some (aI y0)), h) := by
  exact q_ret (c := (some (aI y0), h)) mt_X9_count dX9_count_43 rfl
theorem e_X9_count_51 (sc : SC) (p0 : Nat) (x1 : Int32) (y0 : Int32) (h : AH) : Run sc n_X9_count 51 [aD p0, aI x1] none [aI y0] h = some (.inl (some (aI y0)), h) := by
  exact q_ret (c := (some (aI y0), h)) mt_X9_count dX9_count_51 rfl
theorem e_X9_count_59 (sc : SC) (p0 : Nat) (x1 : Int32) (y0 : Int32) (h : AH) : Run sc n_X9_count 59 [aD p0, aI x1] none [aI y0] h = some (.inl (some (aI y0)), h) := by
  exact q_ret (c := (some (aI y0), h)) mt_X9_count dX9_count_59 rfl
theorem e_X9_count_67 (sc : SC) (p0 : Nat) (x1 : Int32) (y0 : Int32) (h : AH) : Run sc n_X9_count 67 [aD p0, aI x1] none [aI y0] h = some (.inl (some (aI y0)), h) := by
  exact q_ret (c := (some (aI y0), h)) mt_X9_count dX9_count_67 rfl
theorem e_X9_count_75 (sc : SC) (p0 : Nat) (x1 : Int32) (y0 : Int32) (h : AH) : Run sc n_X9_count 75 [aD p0, aI x1] none [aI y0] h = some (.inl (some (aI y0)), h) := by
  exact q_ret (c := (some (aI y0), h)) mt_X9_count dX9_count_75 rfl
/-! BranchSlotFiller.live(I)I -/
theorem e_X9_live_0 (sc : SC) (p0 : Nat) (x1 : Int32) (h : AH) : Run sc n_X9_live 0 [aD p0, aI x1] none [] h = Run sc n_X9_live (if x1 < 0 then 15 else 4) [aD p0, aI x1] none [] h := by
  refine (s_go mt_X9_live dX9_live_0 rfl).trans ?_
  exact q_if mt_X9_live dX9_live_1 (fun _ _ _ _ => rfl) rfl
theorem e_X9_live_4 (sc : SC) (p0 : Nat) (x1 : Int32) (h : AH) : Run sc n_X9_live 4 [aD p0, aI x1] none [] h = bF (getF sc h (aD p0) 11 3) (fun z => Run sc n_X9_live 9 [aD p0, aI x1] none [z, aI x1] h) := by
  refine (s_go mt_X9_live dX9_live_4 rfl).trans ?_
  refine (s_go mt_X9_live dX9_live_5 rfl).trans ?_
  exact q_getfield mt_X9_live dX9_live_6 rfl
theorem e_X9_live_15 (sc : SC) (p0 : Nat) (x1 : Int32) (h : AH) : Run sc n_X9_live 15 [aD p0, aI x1] none [] h = some (.inr 2, (h.1, h.2 + 1)) := by
  exact q_new mt_X9_live dX9_live_15 rfl (throwA_S rfl (Nat.le_of_ble_eq_true rfl) dX9_live_18 dX9_live_19 dX9_live_21 dX9_live_24 rfl rfl)
theorem e_X9_live_25 (sc : SC) (p0 : Nat) (x1 : Int32) (h : AH) : Run sc n_X9_live 25 [aD p0, aI x1] none [] h = bF (getF sc h (aD p0) 11 3) (fun z => Run sc n_X9_live 29 [aD p0, aI x1] none [z] h) := by
  refine (s_go mt_X9_live dX9_live_25 rfl).trans ?_
  exact q_getfield mt_X9_live dX9_live_26 rfl
theorem e_X9_live_36 (sc : SC) (p0 : Nat) (x1 : Int32) (h : AH) : Run sc n_X9_live 36 [aD p0, aI x1] none [] h = some (.inr 0, (h.1, h.2 + 1)) := by
  exact q_new mt_X9_live dX9_live_36 rfl (throwA_S rfl (Nat.le_of_ble_eq_true rfl) dX9_live_39 dX9_live_40 dX9_live_42 dX9_live_45 rfl rfl)
theorem e_X9_live_46 (sc : SC) (p0 : Nat) (x1 : Int32) (h : AH) : Run sc n_X9_live 46 [aD p0, aI x1] none [] h = bF (getF sc h (aD p0) 11 4) (fun z => Run sc n_X9_live 50 [aD p0, aI x1] none [z] h) := by
  refine (s_go mt_X9_live dX9_live_46 rfl).trans ?_
  exact q_getfield mt_X9_live dX9_live_47 rfl
theorem e_X9_live_9 (sc : SC) (p0 : Nat) (x1 : Int32) (y0 : Int32) (q1 : Nat) (h : AH) : Run sc n_X9_live 9 [aD p0, aI x1] none [aD q1, aI y0] h = bF (getF sc h (aD q1) 8 1) (fun z => Run sc n_X9_live 12 [aD p0, aI x1] none [z, aI y0] h) := by
  exact q_getfield mt_X9_live dX9_live_9 rfl
theorem e_X9_live_29 (sc : SC) (p0 : Nat) (x1 : Int32) (q0 : Nat) (h : AH) : Run sc n_X9_live 29 [aD p0, aI x1] none [aD q0] h = bI (rOK sc h (aD q0) 8 = true) (bC (Call sc n_X6_isSlot [aD q0, aI x1] h) (fun v z => Run sc n_X9_live 33 [aD p0, aI x1] none (v.toList ++ []) z) (fun E z => some (.inr E, z))) := by
  refine (s_go mt_X9_live dX9_live_29 rfl).trans ?_
  exact q_cV mt_X9_live dX9_live_30 rfl mt_X6_isSlot rfl rfl rfl
theorem e_X9_live_50 (sc : SC) (p0 : Nat) (x1 : Int32) (q0 : Nat) (h : AH) : Run sc n_X9_live 50 [aD p0, aI x1] none [aD q0] h = bI (rOK sc h (aD q0) 5 = true) (bC (Call sc n_X2_liveBefore [aD q0, aI x1] h) (fun v z => Run sc n_X9_live 54 [aD p0, aI x1] none (v.toList ++ []) z) (fun E z => some (.inr E, z))) := by
  refine (s_go mt_X9_live dX9_live_50 rfl).trans ?_
  exact q_cV mt_X9_live dX9_live_51 rfl mt_X2_liveBefore rfl rfl rfl
theorem e_X9_live_12 (sc : SC) (p0 : Nat) (x1 : Int32) (y0 : Int32) (y1 : Int32) (h : AH) : Run sc n_X9_live 12 [aD p0, aI x1] none [aI y1, aI y0] h = Run sc n_X9_live (if y0 ≤ y1 then 25 else 15) [aD p0, aI x1] none [] h := by
  exact q_icmp mt_X9_live dX9_live_12 (fun _ _ _ _ => rfl) rfl
theorem e_X9_live_33 (sc : SC) (p0 : Nat) (x1 : Int32) (y0 : Int32) (h : AH) : Run sc n_X9_live 33 [aD p0, aI x1] none [aI y0] h = Run sc n_X9_live (if y0 = 0 then 46 else 36) [aD p0, aI x1] none [] h := by
  exact q_if mt_X9_live dX9_live_33 (fun _ _ _ _ => rfl) rfl
theorem e_X9_live_54 (sc : SC) (p0 : Nat) (x1 : Int32) (y0 : Int32) (h : AH) : Run sc n_X9_live 54 [aD p0, aI x1] none [aI y0] h = some (.inl (some (aI y0)), h) := by
  exact q_ret (c := (some (aI y0), h)) mt_X9_live dX9_live_54 rfl
/-! BranchSlotFiller.isIndependent(II)Z -/
theorem e_X9_isIndependent_0 (sc : SC) (p0 : Nat) (x1 : Int32) (x2 : Int32) (h : AH) : Run sc n_X9_isIndependent 0 [aD p0, aI x1, aI x2] none [] h = bF (getF sc h (aD p0) 11 3) (fun z => Run sc n_X9_isIndependent 4 [aD p0, aI x1, aI x2] none [z] h) := by
  refine (s_go mt_X9_isIndependent dX9_isIndependent_0 rfl).trans ?_
  exact q_getfield mt_X9_isIndependent dX9_isIndependent_1 rfl
theorem e_X9_isIndependent_11 (sc : SC) (p0 : Nat) (x1 : Int32) (x2 : Int32) (h : AH) : Run sc n_X9_isIndependent 11 [aD p0, aI x1, aI x2] none [] h = bF (getF sc h (aD p0) 11 3) (fun z => Run sc n_X9_isIndependent 15 [aD p0, aI x1, aI x2] none [z] h) := by
  refine (s_go mt_X9_isIndependent dX9_isIndependent_11 rfl).trans ?_
  exact q_getfield mt_X9_isIndependent dX9_isIndependent_12 rfl
theorem e_X9_isIndependent_22 (sc : SC) (p0 : Nat) (x1 : Int32) (x2 : Int32) (h : AH) : Run sc n_X9_isIndependent 22 [aD p0, aI x1, aI x2] none [] h = some (.inr 2, (h.1, h.2 + 1)) := by
  exact q_new mt_X9_isIndependent dX9_isIndependent_22 rfl (throwA_S rfl (Nat.le_of_ble_eq_true rfl) dX9_isIndependent_25 dX9_isIndependent_26 dX9_isIndependent_28 dX9_isIndependent_31 rfl rfl)
theorem e_X9_isIndependent_32 (sc : SC) (p0 : Nat) (x1 : Int32) (x2 : Int32) (h : AH) : Run sc n_X9_isIndependent 32 [aD p0, aI x1, aI x2] none [] h = bF (getF sc h (aD p0) 11 3) (fun z => Run sc n_X9_isIndependent 36 [aD p0, aI x1, aI x2] none [z] h) := by
  refine (s_go mt_X9_isIndependent dX9_isIndependent_32 rfl).trans ?_
  exact q_getfield mt_X9_isIndependent dX9_isIndependent_33 rfl
theorem e_X9_isIndependent_4 (sc : SC) (p0 : Nat) (x1 : Int32) (x2 : Int32) (q0 : Nat) (h : AH) : Run sc n_X9_isIndependent 4 [aD p0, aI x1, aI x2] none [aD q0] h = bI (rOK sc h (aD q0) 8 = true) (bC (Call sc n_X6_has [aD q0, aI x1] h) (fun v z => Run sc n_X9_isIndependent 8 [aD p0, aI x1, aI x2] none (v.toList ++ []) z) (fun E z => some (.inr E, z))) := by
  refine (s_go mt_X9_isIndependent dX9_isIndependent_4 rfl).trans ?_
  exact q_cV mt_X9_isIndependent dX9_isIndependent_5 rfl mt_X6_has rfl rfl rfl
theorem e_X9_isIndependent_15 (sc : SC) (p0 : Nat) (x1 : Int32) (x2 : Int32) (q0 : Nat) (h : AH) : Run sc n_X9_isIndependent 15 [aD p0, aI x1, aI x2] none [aD q0] h = bI (rOK sc h (aD q0) 8 = true) (bC (Call sc n_X6_has [aD q0, aI x2] h) (fun v z => Run sc n_X9_isIndependent 19 [aD p0, aI x1, aI x2] none (v.toList ++ []) z) (fun E z => some (.inr E, z))) := by
  refine (s_go mt_X9_isIndependent dX9_isIndependent_15 rfl).trans ?_
  exact q_cV mt_X9_isIndependent dX9_isIndependent_16 rfl mt_X6_has rfl rfl rfl
theorem e_X9_isIndependent_36 (sc : SC) (p0 : Nat) (x1 : Int32) (x2 : Int32) (q0 : Nat) (h : AH) : Run sc n_X9_isIndependent 36 [aD p0, aI x1, aI x2] none [aD q0] h = bI (rOK sc h (aD q0) 8 = true) (bC (Call sc n_X6_areIndependent [aD q0, aI x1, aI x2] h) (fun v z => Run sc n_X9_isIndependent 41 [aD p0, aI x1, aI x2] none (v.toList ++ []) z) (fun E z => some (.inr E, z))) := by
  refine (s_go mt_X9_isIndependent dX9_isIndependent_36 rfl).trans ?_
  refine (s_go mt_X9_isIndependent dX9_isIndependent_37 rfl).trans ?_
  exact q_cV mt_X9_isIndependent dX9_isIndependent_38 rfl mt_X6_areIndependent rfl rfl rfl
theorem e_X9_isIndependent_8 (sc : SC) (p0 : Nat) (x1 : Int32) (x2 : Int32) (y0 : Int32) (h : AH) : Run sc n_X9_isIndependent 8 [aD p0, aI x1, aI x2] none [aI y0] h = Run sc n_X9_isIndependent (if y0 = 0 then 22 else 11) [aD p0, aI x1, aI x2] none [] h := by
  exact q_if mt_X9_isIndependent dX9_isIndependent_8 (fun _ _ _ _ => rfl) rfl
theorem e_X9_isIndependent_19 (sc : SC) (p0 : Nat) (x1 : Int32) (x2 : Int32) (y0 : Int32) (h : AH) : Run sc n_X9_isIndependent 19 [aD p0, aI x1, aI x2] none [aI y0] h = Run sc n_X9_isIndependent (if ¬ y0 = 0 then 32 else 22) [aD p0, aI x1, aI x2] none [] h := by
  exact q_if mt_X9_isIndependent dX9_isIndependent_19 (fun _ _ _ _ => rfl) rfl
theorem e_X9_isIndependent_41 (sc : SC) (p0 : Nat) (x1 : Int32) (x2 : Int32) (y0 : Int32) (h : AH) : Run sc n_X9_isIndependent 41 [aD p0, aI x1, aI x2] none [aI y0] h = bI (retK (some FieldType.boolean) y0 = true) (some (.inl (some (aI y0)), h)) := by
  exact q_iret mt_X9_isIndependent dX9_isIndependent_41
/-! BranchSlotFiller.isWay(I)Z -/
theorem e_X9_isWay_0 (sc : SC) (x0 : Int32) (h : AH) : Run sc n_X9_isWay 0 [aI x0] none [] h = Run sc n_X9_isWay (if x0 < 0 then 13 else 4) [aI x0] none [] h := by
  refine (s_go mt_X9_isWay dX9_isWay_0 rfl).trans ?_
  exact q_if mt_X9_isWay dX9_isWay_1 (fun _ _ _ _ => rfl) rfl
theorem e_X9_isWay_4 (sc : SC) (x0 : Int32) (h : AH) : Run sc n_X9_isWay 4 [aI x0] none [] h = Run sc n_X9_isWay (if (nI 3) ≤ x0 then 13 else 9) [aI x0] none [] h := by
  refine (s_go mt_X9_isWay dX9_isWay_4 rfl).trans ?_
  refine (s_go mt_X9_isWay dX9_isWay_5 rfl).trans ?_
  exact q_icmp mt_X9_isWay dX9_isWay_6 (fun _ _ _ _ => rfl) rfl
theorem e_X9_isWay_9 (sc : SC) (x0 : Int32) (h : AH) : Run sc n_X9_isWay 9 [aI x0] none [] h = Run sc n_X9_isWay 14 [aI x0] none [aI (nI 1)] h := by
  refine (s_go mt_X9_isWay dX9_isWay_9 rfl).trans ?_
  refine (s_go mt_X9_isWay dX9_isWay_10 rfl).trans ?_
  exact rfl
theorem e_X9_isWay_13 (sc : SC) (x0 : Int32) (h : AH) : Run sc n_X9_isWay 13 [aI x0] none [] h = Run sc n_X9_isWay 14 [aI x0] none [aI (nI 0)] h := by
  refine (s_go mt_X9_isWay dX9_isWay_13 rfl).trans ?_
  exact rfl
theorem e_X9_isWay_14 (sc : SC) (x0 : Int32) (y0 : Int32) (h : AH) : Run sc n_X9_isWay 14 [aI x0] none [aI y0] h = bI (retK (some FieldType.boolean) y0 = true) (some (.inl (some (aI y0)), h)) := by
  exact q_iret mt_X9_isWay dX9_isWay_14
/-! BranchSlotFiller.candidate(II)I -/
theorem e_X9_candidate_0 (sc : SC) (p0 : Nat) (x1 : Int32) (x2 : Int32) (v3 : AV) (h : AH) : Run sc n_X9_candidate 0 [aD p0, aI x1, aI x2, v3] none [] h = bF (getF sc h (aD p0) 11 3) (fun z => Run sc n_X9_candidate 4 [aD p0, aI x1, aI x2, v3] none [z] h) := by
  refine (s_go mt_X9_candidate dX9_candidate_0 rfl).trans ?_
  exact q_getfield mt_X9_candidate dX9_candidate_1 rfl
theorem e_X9_candidate_11 (sc : SC) (p0 : Nat) (x1 : Int32) (x2 : Int32) (v3 : AV) (h : AH) : Run sc n_X9_candidate 11 [aD p0, aI x1, aI x2, v3] none [] h = some (.inr 2, (h.1, h.2 + 1)) := by
  exact q_new mt_X9_candidate dX9_candidate_11 rfl (throwA_S rfl (Nat.le_of_ble_eq_true rfl) dX9_candidate_14 dX9_candidate_15 dX9_candidate_17 dX9_candidate_20 rfl rfl)
theorem e_X9_candidate_21 (sc : SC) (p0 : Nat) (x1 : Int32) (x2 : Int32) (v3 : AV) (h : AH) : Run sc n_X9_candidate 21 [aD p0, aI x1, aI x2, v3] none [] h = bC (Call sc n_X9_isWay [aI x2] h) (fun v z => Run sc n_X9_candidate 25 [aD p0, aI x1, aI x2, v3] none (v.toList ++ []) z) (fun E z => some (.inr E, z)) := by
  refine (s_go mt_X9_candidate dX9_candidate_21 rfl).trans ?_
  exact q_cS mt_X9_candidate dX9_candidate_22 rfl mt_X9_isWay rfl rfl
theorem e_X9_candidate_28 (sc : SC) (p0 : Nat) (x1 : Int32) (x2 : Int32) (v3 : AV) (h : AH) : Run sc n_X9_candidate 28 [aD p0, aI x1, aI x2, v3] none [] h = some (.inr 1, (h.1, h.2 + 1)) := by
  exact q_new mt_X9_candidate dX9_candidate_28 rfl (throwA_S rfl (Nat.le_of_ble_eq_true rfl) dX9_candidate_31 dX9_candidate_32 dX9_candidate_34 dX9_candidate_37 rfl rfl)
theorem e_X9_candidate_38 (sc : SC) (p0 : Nat) (x1 : Int32) (x2 : Int32) (v3 : AV) (h : AH) : Run sc n_X9_candidate 38 [aD p0, aI x1, aI x2, v3] none [] h = bF (getF sc h (aD p0) 11 3) (fun z => Run sc n_X9_candidate 42 [aD p0, aI x1, aI x2, v3] none [z] h) := by
  refine (s_go mt_X9_candidate dX9_candidate_38 rfl).trans ?_
  exact q_getfield mt_X9_candidate dX9_candidate_39 rfl
theorem e_X9_candidate_49 (sc : SC) (p0 : Nat) (x1 : Int32) (x2 : Int32) (v3 : AV) (h : AH) : Run sc n_X9_candidate 49 [aD p0, aI x1, aI x2, v3] none [] h = some (.inr 0, (h.1, h.2 + 1)) := by
  exact q_new mt_X9_candidate dX9_candidate_49 rfl (throwA_S rfl (Nat.le_of_ble_eq_true rfl) dX9_candidate_52 dX9_candidate_53 dX9_candidate_55 dX9_candidate_58 rfl rfl)
theorem e_X9_candidate_59 (sc : SC) (p0 : Nat) (x1 : Int32) (x2 : Int32) (v3 : AV) (h : AH) : Run sc n_X9_candidate 59 [aD p0, aI x1, aI x2, v3] none [] h = bF (getF sc h (aD p0) 11 5) (fun z => Run sc n_X9_candidate 63 [aD p0, aI x1, aI x2, v3] none [z] h) := by
  refine (s_go mt_X9_candidate dX9_candidate_59 rfl).trans ?_
  exact q_getfield mt_X9_candidate dX9_candidate_60 rfl
theorem e_X9_candidate_74 (sc : SC) (p0 : Nat) (x1 : Int32) (x2 : Int32) (x3 : Int32) (h : AH) : Run sc n_X9_candidate 74 [aD p0, aI x1, aI x2, aI x3] none [] h = some (.inr 5, (h.1, h.2 + 1)) := by
  exact q_new mt_X9_candidate dX9_candidate_74 rfl (throwA_S rfl (Nat.le_of_ble_eq_true rfl) dX9_candidate_77 dX9_candidate_78 dX9_candidate_80 dX9_candidate_83 rfl rfl)
theorem e_X9_candidate_84 (sc : SC) (p0 : Nat) (x1 : Int32) (x2 : Int32) (x3 : Int32) (h : AH) : Run sc n_X9_candidate 84 [aD p0, aI x1, aI x2, aI x3] none [] h = some (.inl (some (aI x3)), h) := by
  refine (s_go mt_X9_candidate dX9_candidate_84 rfl).trans ?_
  exact q_ret (c := (some (aI x3), h)) mt_X9_candidate dX9_candidate_85 rfl
theorem e_X9_candidate_4 (sc : SC) (p0 : Nat) (x1 : Int32) (x2 : Int32) (v3 : AV) (q0 : Nat) (h : AH) : Run sc n_X9_candidate 4 [aD p0, aI x1, aI x2, v3] none [aD q0] h = bI (rOK sc h (aD q0) 8 = true) (bC (Call sc n_X6_has [aD q0, aI x1] h) (fun v z => Run sc n_X9_candidate 8 [aD p0, aI x1, aI x2, v3] none (v.toList ++ []) z) (fun E z => some (.inr E, z))) := by
  refine (s_go mt_X9_candidate dX9_candidate_4 rfl).trans ?_
  exact q_cV mt_X9_candidate dX9_candidate_5 rfl mt_X6_has rfl rfl rfl
theorem e_X9_candidate_25 (sc : SC) (p0 : Nat) (x1 : Int32) (x2 : Int32) (v3 : AV) (y0 : Int32) (h : AH) : Run sc n_X9_candidate 25 [aD p0, aI x1, aI x2, v3] none [aI y0] h = Run sc n_X9_candidate (if ¬ y0 = 0 then 38 else 28) [aD p0, aI x1, aI x2, v3] none [] h := by
  exact q_if mt_X9_candidate dX9_candidate_25 (fun _ _ _ _ => rfl) rfl
theorem e_X9_candidate_42 (sc : SC) (p0 : Nat) (x1 : Int32) (x2 : Int32) (v3 : AV) (q0 : Nat) (h : AH) : Run sc n_X9_candidate 42 [aD p0, aI x1, aI x2, v3] none [aD q0] h = bI (rOK sc h (aD q0) 8 = true) (bC (Call sc n_X6_hasEmptySlot [aD q0, aI x1] h) (fun v z => Run sc n_X9_candidate 46 [aD p0, aI x1, aI x2, v3] none (v.toList ++ []) z) (fun E z => some (.inr E, z))) := by
  refine (s_go mt_X9_candidate dX9_candidate_42 rfl).trans ?_
  exact q_cV mt_X9_candidate dX9_candidate_43 rfl mt_X6_hasEmptySlot rfl rfl rfl
theorem e_X9_candidate_63 (sc : SC) (p0 : Nat) (x1 : Int32) (x2 : Int32) (v3 : AV) (q0 : Nat) (h : AH) : Run sc n_X9_candidate 63 [aD p0, aI x1, aI x2, v3] none [aD q0] h = bI (rOK sc h (aD q0) 4 = true) (bC (Call sc n_X1_find [aD q0, aI x1, aI x2] h) (fun v z => Run sc n_X9_candidate 68 [aD p0, aI x1, aI x2, v3] none (v.toList ++ []) z) (fun E z => some (.inr E, z))) := by
  refine (s_go mt_X9_candidate dX9_candidate_63 rfl).trans ?_
  refine (s_go mt_X9_candidate dX9_candidate_64 rfl).trans ?_
  exact q_cV mt_X9_candidate dX9_candidate_65 rfl mt_X1_find rfl rfl rfl
theorem e_X9_candidate_8 (sc : SC) (p0 : Nat) (x1 : Int32) (x2 : Int32) (v3 : AV) (y0 : Int32) (h : AH) : Run sc n_X9_candidate 8 [aD p0, aI x1, aI x2, v3] none [aI y0] h = Run sc n_X9_candidate (if ¬ y0 = 0 then 21 else 11) [aD p0, aI x1, aI x2, v3] none [] h := by
  exact q_if mt_X9_candidate dX9_candidate_8 (fun _ _ _ _ => rfl) rfl
theorem e_X9_candidate_46 (sc : SC) (p0 : Nat) (x1 : Int32) (x2 : Int32) (v3 : AV) (y0 : Int32) (h : AH) : Run sc n_X9_candidate 46 [aD p0, aI x1, aI x2, v3] none [aI y0] h = Run sc n_X9_candidate (if ¬ y0 = 0 then 59 else 49) [aD p0, aI x1, aI x2, v3] none [] h := by
  exact q_if mt_X9_candidate dX9_candidate_46 (fun _ _ _ _ => rfl) rfl
theorem e_X9_candidate_68 (sc : SC) (p0 : Nat) (x1 : Int32) (x2 : Int32) (v3 : AV) (y0 : Int32) (h : AH) : Run sc n_X9_candidate 68 [aD p0, aI x1, aI x2, v3] none [aI y0] h = Run sc n_X9_candidate (if ¬ y0 = (-1) then 84 else 74) [aD p0, aI x1, aI x2, aI y0] none [] h := by
  refine (s_go mt_X9_candidate dX9_candidate_68 rfl).trans ?_
  refine (s_go mt_X9_candidate dX9_candidate_69 rfl).trans ?_
  refine (s_go mt_X9_candidate dX9_candidate_70 rfl).trans ?_
  exact q_icmp mt_X9_candidate dX9_candidate_71 (fun _ _ _ _ => rfl) rfl
/-! BranchSlotFiller.fill(II)I -/
theorem e_X9_fill_0 (sc : SC) (p0 : Nat) (x1 : Int32) (x2 : Int32) (v3 : AV) (h : AH) : Run sc n_X9_fill 0 [aD p0, aI x1, aI x2, v3] none [] h = bI (rOK sc h (aD p0) 11 = true) (bC (Call sc n_X9_candidate [aD p0, aI x1, aI x2] h) (fun v z => Run sc n_X9_fill 6 [aD p0, aI x1, aI x2, v3] none (v.toList ++ []) z) (fun E z => some (.inr E, z))) := by
  refine (s_go mt_X9_fill dX9_fill_0 rfl).trans ?_
  refine (s_go mt_X9_fill dX9_fill_1 rfl).trans ?_
  refine (s_go mt_X9_fill dX9_fill_2 rfl).trans ?_
  exact q_cV mt_X9_fill dX9_fill_3 rfl mt_X9_candidate rfl rfl rfl
theorem e_X9_fill_6 (sc : SC) (p0 : Nat) (x1 : Int32) (x2 : Int32) (v3 : AV) (y0 : Int32) (h : AH) : Run sc n_X9_fill 6 [aD p0, aI x1, aI x2, v3] none [aI y0] h = bF (getF sc h (aD p0) 11 6) (fun z => Run sc n_X9_fill 11 [aD p0, aI x1, aI x2, aI y0] none [z] h) := by
  refine (s_go mt_X9_fill dX9_fill_6 rfl).trans ?_
  refine (s_go mt_X9_fill dX9_fill_7 rfl).trans ?_
  exact q_getfield mt_X9_fill dX9_fill_8 rfl
theorem e_X9_fill_11 (sc : SC) (p0 : Nat) (x1 : Int32) (x2 : Int32) (x3 : Int32) (q0 : Nat) (h : AH) : Run sc n_X9_fill 11 [aD p0, aI x1, aI x2, aI x3] none [aD q0] h = bF (getF sc h (aD p0) 11 3) (fun z => Run sc n_X9_fill 15 [aD p0, aI x1, aI x2, aI x3] none [z, aD q0] h) := by
  refine (s_go mt_X9_fill dX9_fill_11 rfl).trans ?_
  exact q_getfield mt_X9_fill dX9_fill_12 rfl
theorem e_X9_fill_15 (sc : SC) (p0 : Nat) (x1 : Int32) (x2 : Int32) (x3 : Int32) (q0 : Nat) (q1 : Nat) (h : AH) : Run sc n_X9_fill 15 [aD p0, aI x1, aI x2, aI x3] none [aD q1, aD q0] h = bI (rOK sc h (aD q0) 6 = true) (bC (Call sc n_X3_remember [aD q0, aD q1] h) (fun v z => Run sc n_X9_fill 18 [aD p0, aI x1, aI x2, aI x3] none (v.toList ++ []) z) (fun E z => some (.inr E, z))) := by
  exact q_cV mt_X9_fill dX9_fill_15 rfl mt_X3_remember rfl rfl rfl
theorem e_X9_fill_18 (sc : SC) (p0 : Nat) (x1 : Int32) (x2 : Int32) (x3 : Int32) (h : AH) : Run sc n_X9_fill 18 [aD p0, aI x1, aI x2, aI x3] none [] h = bF (getF sc h (aD p0) 11 5) (fun z => Run sc n_X9_fill 22 [aD p0, aI x1, aI x2, aI x3] none [z] h) := by
  refine (s_go mt_X9_fill dX9_fill_18 rfl).trans ?_
  exact q_getfield mt_X9_fill dX9_fill_19 rfl
theorem e_X9_fill_22 (sc : SC) (p0 : Nat) (x1 : Int32) (x2 : Int32) (x3 : Int32) (q0 : Nat) (h : AH) : Run sc n_X9_fill 22 [aD p0, aI x1, aI x2, aI x3] none [aD q0] h = bI (rOK sc h (aD q0) 4 = true) (bC (Call sc n_X1_move [aD q0, aI x3, aI x1, aI x2] h) (fun v z => Run sc n_X9_fill 28 [aD p0, aI x1, aI x2, aI x3] none (v.toList ++ []) z) (fun E z => some (.inr E, z))) := by
  refine (s_go mt_X9_fill dX9_fill_22 rfl).trans ?_
  refine (s_go mt_X9_fill dX9_fill_23 rfl).trans ?_
  refine (s_go mt_X9_fill dX9_fill_24 rfl).trans ?_
  exact q_cV mt_X9_fill dX9_fill_25 rfl mt_X1_move rfl rfl rfl
theorem e_X9_fill_28 (sc : SC) (p0 : Nat) (x1 : Int32) (x2 : Int32) (x3 : Int32) (y0 : Int32) (h : AH) : Run sc n_X9_fill 28 [aD p0, aI x1, aI x2, aI x3] none [aI y0] h = some (.inl (some (aI y0)), h) := by
  exact q_ret (c := (some (aI y0), h)) mt_X9_fill dX9_fill_28 rfl
/-! BranchSlotFiller.fillAll(II)I -/
theorem e_X9_fillAll_0 (sc : SC) (p0 : Nat) (x1 : Int32) (x2 : Int32) (h : AH) : Run sc n_X9_fillAll 0 [aD p0, aI x1, aI x2] none [] h = bC (Call sc n_X9_isWay [aI x1] h) (fun v z => Run sc n_X9_fillAll 4 [aD p0, aI x1, aI x2] none (v.toList ++ []) z) (fun E z => some (.inr E, z)) := by
  refine (s_go mt_X9_fillAll dX9_fillAll_0 rfl).trans ?_
  exact q_cS mt_X9_fillAll dX9_fillAll_1 rfl mt_X9_isWay rfl rfl
theorem e_X9_fillAll_7 (sc : SC) (p0 : Nat) (x1 : Int32) (x2 : Int32) (h : AH) : Run sc n_X9_fillAll 7 [aD p0, aI x1, aI x2] none [] h = bC (Call sc n_X9_isWay [aI x2] h) (fun v z => Run sc n_X9_fillAll 11 [aD p0, aI x1, aI x2] none (v.toList ++ []) z) (fun E z => some (.inr E, z)) := by
  refine (s_go mt_X9_fillAll dX9_fillAll_7 rfl).trans ?_
  exact q_cS mt_X9_fillAll dX9_fillAll_8 rfl mt_X9_isWay rfl rfl
theorem e_X9_fillAll_14 (sc : SC) (p0 : Nat) (x1 : Int32) (x2 : Int32) (h : AH) : Run sc n_X9_fillAll 14 [aD p0, aI x1, aI x2] none [] h = Run sc n_X9_fillAll (if ¬ x1 = x2 then 29 else 19) [aD p0, aI x1, aI x2] none [] h := by
  refine (s_go mt_X9_fillAll dX9_fillAll_14 rfl).trans ?_
  refine (s_go mt_X9_fillAll dX9_fillAll_15 rfl).trans ?_
  exact q_icmp mt_X9_fillAll dX9_fillAll_16 (fun _ _ _ _ => rfl) rfl
theorem e_X9_fillAll_19 (sc : SC) (p0 : Nat) (x1 : Int32) (x2 : Int32) (h : AH) : Run sc n_X9_fillAll 19 [aD p0, aI x1, aI x2] none [] h = some (.inr 1, (h.1, h.2 + 1)) := by
  exact q_new mt_X9_fillAll dX9_fillAll_19 rfl (throwA_S rfl (Nat.le_of_ble_eq_true rfl) dX9_fillAll_22 dX9_fillAll_23 dX9_fillAll_25 dX9_fillAll_28 rfl rfl)
theorem e_X9_fillAll_29 (sc : SC) (p0 : Nat) (x1 : Int32) (x2 : Int32) (h : AH) : Run sc n_X9_fillAll 29 [aD p0, aI x1, aI x2] none [] h = bF (getF sc h (aD p0) 11 6) (fun z => Run sc n_X9_fillAll 33 [aD p0, aI x1, aI x2] none [z] h) := by
  refine (s_go mt_X9_fillAll dX9_fillAll_29 rfl).trans ?_
  exact q_getfield mt_X9_fillAll dX9_fillAll_30 rfl
theorem e_X9_fillAll_4 (sc : SC) (p0 : Nat) (x1 : Int32) (x2 : Int32) (y0 : Int32) (h : AH) : Run sc n_X9_fillAll 4 [aD p0, aI x1, aI x2] none [aI y0] h = Run sc n_X9_fillAll (if y0 = 0 then 19 else 7) [aD p0, aI x1, aI x2] none [] h := by
  exact q_if mt_X9_fillAll dX9_fillAll_4 (fun _ _ _ _ => rfl) rfl
theorem e_X9_fillAll_11 (sc : SC) (p0 : Nat) (x1 : Int32) (x2 : Int32) (y0 : Int32) (h : AH) : Run sc n_X9_fillAll 11 [aD p0, aI x1, aI x2] none [aI y0] h = Run sc n_X9_fillAll (if y0 = 0 then 19 else 14) [aD p0, aI x1, aI x2] none [] h := by
  exact q_if mt_X9_fillAll dX9_fillAll_11 (fun _ _ _ _ => rfl) rfl
theorem e_X9_fillAll_33 (sc : SC) (p0 : Nat) (x1 : Int32) (x2 : Int32) (q0 : Nat) (h : AH) : Run sc n_X9_fillAll 33 [aD p0, aI x1, aI x2] none [aD q0] h = bF (getF sc h (aD p0) 11 3) (fun z => Run sc n_X9_fillAll 37 [aD p0, aI x1, aI x2] none [z, aD q0] h) := by
  refine (s_go mt_X9_fillAll dX9_fillAll_33 rfl).trans ?_
  exact q_getfield mt_X9_fillAll dX9_fillAll_34 rfl
theorem e_X9_fillAll_37 (sc : SC) (p0 : Nat) (x1 : Int32) (x2 : Int32) (q0 : Nat) (q1 : Nat) (h : AH) : Run sc n_X9_fillAll 37 [aD p0, aI x1, aI x2] none [aD q1, aD q0] h = bI (rOK sc h (aD q0) 6 = true) (bC (Call sc n_X3_remember [aD q0, aD q1] h) (fun v z => Run sc n_X9_fillAll 40 [aD p0, aI x1, aI x2] none (v.toList ++ []) z) (fun E z => some (.inr E, z))) := by
  exact q_cV mt_X9_fillAll dX9_fillAll_37 rfl mt_X3_remember rfl rfl rfl
theorem e_X9_fillAll_40 (sc : SC) (p0 : Nat) (x1 : Int32) (x2 : Int32) (h : AH) : Run sc n_X9_fillAll 40 [aD p0, aI x1, aI x2] none [] h = bF (getF sc h (aD p0) 11 5) (fun z => Run sc n_X9_fillAll 44 [aD p0, aI x1, aI x2] none [z] h) := by
  refine (s_go mt_X9_fillAll dX9_fillAll_40 rfl).trans ?_
  exact q_getfield mt_X9_fillAll dX9_fillAll_41 rfl
theorem e_X9_fillAll_44 (sc : SC) (p0 : Nat) (x1 : Int32) (x2 : Int32) (q0 : Nat) (h : AH) : Run sc n_X9_fillAll 44 [aD p0, aI x1, aI x2] none [aD q0] h = bI (rOK sc h (aD q0) 4 = true) (bC (Call sc n_X1_fillEach [aD q0, aI x1, aI x2] h) (fun v z => Run sc n_X9_fillAll 49 [aD p0, aI x1, aI x2] none (v.toList ++ []) z) (fun E z => some (.inr E, z))) := by
  refine (s_go mt_X9_fillAll dX9_fillAll_44 rfl).trans ?_
  refine (s_go mt_X9_fillAll dX9_fillAll_45 rfl).trans ?_
  exact q_cV mt_X9_fillAll dX9_fillAll_46 rfl mt_X1_fillEach rfl rfl rfl
theorem e_X9_fillAll_49 (sc : SC) (p0 : Nat) (x1 : Int32) (x2 : Int32) (y0 : Int32) (h : AH) : Run sc n_X9_fillAll 49 [aD p0, aI x1, aI x2] none [aI y0] h = some (.inl (some (aI y0)), h) := by
  exact q_ret (c := (some (aI y0), h)) mt_X9_fillAll dX9_fillAll_49 rfl
/-! BranchSlotFiller.undo()I -/
theorem e_X9_undo_0 (sc : SC) (p0 : Nat) (h : AH) : Run sc n_X9_undo 0 [aD p0] none [] h = bF (getF sc h (aD p0) 11 6) (fun z => Run sc n_X9_undo 4 [aD p0] none [z] h) := by
  refine (s_go mt_X9_undo dX9_undo_0 rfl).trans ?_
  exact q_getfield mt_X9_undo dX9_undo_1 rfl
theorem e_X9_undo_10 (sc : SC) (p0 : Nat) (h : AH) : Run sc n_X9_undo 10 [aD p0] none [] h = some (.inr 0, (h.1, h.2 + 1)) := by
  exact q_new mt_X9_undo dX9_undo_10 rfl (throwA_S rfl (Nat.le_of_ble_eq_true rfl) dX9_undo_13 dX9_undo_14 dX9_undo_16 dX9_undo_19 rfl rfl)
theorem e_X9_undo_20 (sc : SC) (p0 : Nat) (h : AH) : Run sc n_X9_undo 20 [aD p0] none [] h = bF (getF sc h (aD p0) 11 6) (fun z => Run sc n_X9_undo 24 [aD p0] none [z] h) := by
  refine (s_go mt_X9_undo dX9_undo_20 rfl).trans ?_
  exact q_getfield mt_X9_undo dX9_undo_21 rfl
theorem e_X9_undo_4 (sc : SC) (p0 : Nat) (q0 : Nat) (h : AH) : Run sc n_X9_undo 4 [aD p0] none [aD q0] h = bF (getF sc h (aD q0) 6 2) (fun z => Run sc n_X9_undo 7 [aD p0] none [z] h) := by
  exact q_getfield mt_X9_undo dX9_undo_4 rfl
theorem e_X9_undo_24 (sc : SC) (p0 : Nat) (q0 : Nat) (h : AH) : Run sc n_X9_undo 24 [aD p0] none [aD q0] h = bF (getF sc h (aD p0) 11 3) (fun z => Run sc n_X9_undo 28 [aD p0] none [z, aD q0] h) := by
  refine (s_go mt_X9_undo dX9_undo_24 rfl).trans ?_
  exact q_getfield mt_X9_undo dX9_undo_25 rfl
theorem e_X9_undo_7 (sc : SC) (p0 : Nat) (y0 : Int32) (h : AH) : Run sc n_X9_undo 7 [aD p0] none [aI y0] h = Run sc n_X9_undo (if ¬ y0 = 0 then 20 else 10) [aD p0] none [] h := by
  exact q_if mt_X9_undo dX9_undo_7 (fun _ _ _ _ => rfl) rfl
theorem e_X9_undo_28 (sc : SC) (p0 : Nat) (q0 : Nat) (q1 : Nat) (h : AH) : Run sc n_X9_undo 28 [aD p0] none [aD q1, aD q0] h = bI (rOK sc h (aD q0) 6 = true) (bC (Call sc n_X3_takeBack [aD q0, aD q1] h) (fun v z => Run sc n_X9_undo 31 [aD p0] none (v.toList ++ []) z) (fun E z => some (.inr E, z))) := by
  exact q_cV mt_X9_undo dX9_undo_28 rfl mt_X3_takeBack rfl rfl rfl
theorem e_X9_undo_31 (sc : SC) (p0 : Nat) (h : AH) : Run sc n_X9_undo 31 [aD p0] none [] h = bF (getF sc h (aD p0) 11 6) (fun z => Run sc n_X9_undo 35 [aD p0] none [z] h) := by
  refine (s_go mt_X9_undo dX9_undo_31 rfl).trans ?_
  exact q_getfield mt_X9_undo dX9_undo_32 rfl
theorem e_X9_undo_35 (sc : SC) (p0 : Nat) (q0 : Nat) (h : AH) : Run sc n_X9_undo 35 [aD p0] none [aD q0] h = bF (getF sc h (aD q0) 6 2) (fun z => Run sc n_X9_undo 38 [aD p0] none [z] h) := by
  exact q_getfield mt_X9_undo dX9_undo_35 rfl
theorem e_X9_undo_38 (sc : SC) (p0 : Nat) (y0 : Int32) (h : AH) : Run sc n_X9_undo 38 [aD p0] none [aI y0] h = some (.inl (some (aI y0)), h) := by
  exact q_ret (c := (some (aI y0), h)) mt_X9_undo dX9_undo_38 rfl
/-! BranchSlotFiller.write()I -/
theorem e_X9_write_0 (sc : SC) (p0 : Nat) (h : AH) : Run sc n_X9_write 0 [aD p0] none [] h = bF (getF sc h (aD p0) 11 1) (fun z => Run sc n_X9_write 4 [aD p0] none [z] h) := by
  refine (s_go mt_X9_write dX9_write_0 rfl).trans ?_
  exact q_getfield mt_X9_write dX9_write_1 rfl
theorem e_X9_write_4 (sc : SC) (p0 : Nat) (q0 : Nat) (h : AH) : Run sc n_X9_write 4 [aD p0] none [aD q0] h = bF (getF sc h (aD p0) 11 3) (fun z => Run sc n_X9_write 8 [aD p0] none [z, aD q0] h) := by
  refine (s_go mt_X9_write dX9_write_4 rfl).trans ?_
  exact q_getfield mt_X9_write dX9_write_5 rfl
theorem e_X9_write_8 (sc : SC) (p0 : Nat) (q0 : Nat) (q1 : Nat) (h : AH) : Run sc n_X9_write 8 [aD p0] none [aD q1, aD q0] h = bI (rOK sc h (aD q0) 10 = true) (bC (Call sc n_X8_writeProgram [aD q0, aD q1] h) (fun v z => Run sc n_X9_write 11 [aD p0] none (v.toList ++ []) z) (fun E z => some (.inr E, z))) := by
  exact q_cV mt_X9_write dX9_write_8 rfl mt_X8_writeProgram rfl rfl rfl
theorem e_X9_write_11 (sc : SC) (p0 : Nat) (y0 : Int32) (h : AH) : Run sc n_X9_write 11 [aD p0] none [aI y0] h = some (.inl (some (aI y0)), h) := by
  exact q_ret (c := (some (aI y0), h)) mt_X9_write dX9_write_11 rfl
/-! BranchSlotFiller.text(I)C -/
theorem e_X9_text_0 (sc : SC) (p0 : Nat) (x1 : Int32) (h : AH) : Run sc n_X9_text 0 [aD p0, aI x1] none [] h = Run sc n_X9_text (if x1 < 0 then 15 else 4) [aD p0, aI x1] none [] h := by
  refine (s_go mt_X9_text dX9_text_0 rfl).trans ?_
  exact q_if mt_X9_text dX9_text_1 (fun _ _ _ _ => rfl) rfl
theorem e_X9_text_4 (sc : SC) (p0 : Nat) (x1 : Int32) (h : AH) : Run sc n_X9_text 4 [aD p0, aI x1] none [] h = bF (getF sc h (aD p0) 11 1) (fun z => Run sc n_X9_text 9 [aD p0, aI x1] none [z, aI x1] h) := by
  refine (s_go mt_X9_text dX9_text_4 rfl).trans ?_
  refine (s_go mt_X9_text dX9_text_5 rfl).trans ?_
  exact q_getfield mt_X9_text dX9_text_6 rfl
theorem e_X9_text_15 (sc : SC) (p0 : Nat) (x1 : Int32) (h : AH) : Run sc n_X9_text 15 [aD p0, aI x1] none [] h = some (.inr 2, (h.1, h.2 + 1)) := by
  exact q_new mt_X9_text dX9_text_15 rfl (throwA_S rfl (Nat.le_of_ble_eq_true rfl) dX9_text_18 dX9_text_19 dX9_text_21 dX9_text_24 rfl rfl)
theorem e_X9_text_25 (sc : SC) (p0 : Nat) (x1 : Int32) (h : AH) : Run sc n_X9_text 25 [aD p0, aI x1] none [] h = bF (getF sc h (aD p0) 11 1) (fun z => Run sc n_X9_text 29 [aD p0, aI x1] none [z] h) := by
  refine (s_go mt_X9_text dX9_text_25 rfl).trans ?_
  exact q_getfield mt_X9_text dX9_text_26 rfl
theorem e_X9_text_9 (sc : SC) (p0 : Nat) (x1 : Int32) (y0 : Int32) (q1 : Nat) (h : AH) : Run sc n_X9_text 9 [aD p0, aI x1] none [aD q1, aI y0] h = bF (getF sc h (aD q1) 10 1) (fun z => Run sc n_X9_text 12 [aD p0, aI x1] none [z, aI y0] h) := by
  exact q_getfield mt_X9_text dX9_text_9 rfl
theorem e_X9_text_29 (sc : SC) (p0 : Nat) (x1 : Int32) (q0 : Nat) (h : AH) : Run sc n_X9_text 29 [aD p0, aI x1] none [aD q0] h = bF (getF sc h (aD q0) 10 0) (fun z => Run sc n_X9_text 32 [aD p0, aI x1] none [z] h) := by
  exact q_getfield mt_X9_text dX9_text_29 rfl
theorem e_X9_text_12 (sc : SC) (p0 : Nat) (x1 : Int32) (y0 : Int32) (y1 : Int32) (h : AH) : Run sc n_X9_text 12 [aD p0, aI x1] none [aI y1, aI y0] h = Run sc n_X9_text (if y0 < y1 then 25 else 15) [aD p0, aI x1] none [] h := by
  exact q_icmp mt_X9_text dX9_text_12 (fun _ _ _ _ => rfl) rfl
theorem e_X9_text_32 (sc : SC) (p0 : Nat) (x1 : Int32) (q0 : Nat) (h : AH) : Run sc n_X9_text 32 [aD p0, aI x1] none [aD q0] h = bO (ldI sc h (fun t => t == 1) (aD q0) x1) (fun z => Run sc n_X9_text 34 [aD p0, aI x1] none [aI z] h) := by
  refine (s_go mt_X9_text dX9_text_32 rfl).trans ?_
  exact q_caload mt_X9_text dX9_text_33
theorem e_X9_text_34 (sc : SC) (p0 : Nat) (x1 : Int32) (y0 : Int32) (h : AH) : Run sc n_X9_text 34 [aD p0, aI x1] none [aI y0] h = bI (retK (some FieldType.char) y0 = true) (some (.inl (some (aI y0)), h)) := by
  exact q_iret mt_X9_text dX9_text_34
/-! BranchSlotFiller.placeOf(ZI)I -/
theorem e_X9_placeOf_0 (sc : SC) (x0 : Int32) (x1 : Int32) (h : AH) : Run sc n_X9_placeOf 0 [aI x0, aI x1] none [] h = Run sc n_X9_placeOf (if x1 < 0 then 19 else 4) [aI x0, aI x1] none [] h := by
  refine (s_go mt_X9_placeOf dX9_placeOf_0 rfl).trans ?_
  exact q_if mt_X9_placeOf dX9_placeOf_1 (fun _ _ _ _ => rfl) rfl
theorem e_X9_placeOf_4 (sc : SC) (x0 : Int32) (x1 : Int32) (h : AH) : Run sc n_X9_placeOf 4 [aI x0, aI x1] none [] h = Run sc n_X9_placeOf (if x0 = 0 then 14 else 9) [aI x0, aI x1] none [aI x1] h := by
  refine (s_go mt_X9_placeOf dX9_placeOf_4 rfl).trans ?_
  refine (s_go mt_X9_placeOf dX9_placeOf_5 rfl).trans ?_
  exact q_if mt_X9_placeOf dX9_placeOf_6 (fun _ _ _ _ => rfl) rfl
theorem e_X9_placeOf_9 (sc : SC) (x0 : Int32) (x1 : Int32) (y0 : Int32) (h : AH) : Run sc n_X9_placeOf 9 [aI x0, aI x1] none [aI y0] h = Run sc n_X9_placeOf 16 [aI x0, aI x1] none [aI (nI 16), aI y0] h := by
  refine (s_go mt_X9_placeOf dX9_placeOf_9 rfl).trans ?_
  refine (s_go mt_X9_placeOf dX9_placeOf_11 rfl).trans ?_
  exact rfl
theorem e_X9_placeOf_14 (sc : SC) (x0 : Int32) (x1 : Int32) (y0 : Int32) (h : AH) : Run sc n_X9_placeOf 14 [aI x0, aI x1] none [aI y0] h = Run sc n_X9_placeOf 16 [aI x0, aI x1] none [aI (nI 8), aI y0] h := by
  refine (s_go mt_X9_placeOf dX9_placeOf_14 rfl).trans ?_
  exact rfl
theorem e_X9_placeOf_16 (sc : SC) (x0 : Int32) (x1 : Int32) (y0 : Int32) (y1 : Int32) (h : AH) : Run sc n_X9_placeOf 16 [aI x0, aI x1] none [aI y1, aI y0] h = Run sc n_X9_placeOf (if y0 < y1 then 21 else 19) [aI x0, aI x1] none [] h := by
  exact q_icmp mt_X9_placeOf dX9_placeOf_16 (fun _ _ _ _ => rfl) rfl
theorem e_X9_placeOf_19 (sc : SC) (x0 : Int32) (x1 : Int32) (h : AH) : Run sc n_X9_placeOf 19 [aI x0, aI x1] none [] h = some (.inl (some (aI (-1))), h) := by
  refine (s_go mt_X9_placeOf dX9_placeOf_19 rfl).trans ?_
  exact q_ret (c := (some (aI (-1)), h)) mt_X9_placeOf dX9_placeOf_20 rfl
theorem e_X9_placeOf_21 (sc : SC) (x0 : Int32) (x1 : Int32) (h : AH) : Run sc n_X9_placeOf 21 [aI x0, aI x1] none [] h = Run sc n_X9_placeOf (if x0 = 0 then 32 else 25) [aI x0, aI x1] none [] h := by
  refine (s_go mt_X9_placeOf dX9_placeOf_21 rfl).trans ?_
  exact q_if mt_X9_placeOf dX9_placeOf_22 (fun _ _ _ _ => rfl) rfl
theorem e_X9_placeOf_25 (sc : SC) (x0 : Int32) (x1 : Int32) (h : AH) : Run sc n_X9_placeOf 25 [aI x0, aI x1] none [] h = Run sc n_X9_placeOf 33 [aI x0, aI x1] none [aI ((nI 8) + x1)] h := by
  refine (s_go mt_X9_placeOf dX9_placeOf_25 rfl).trans ?_
  refine (s_go mt_X9_placeOf dX9_placeOf_27 rfl).trans ?_
  refine (s_go mt_X9_placeOf dX9_placeOf_28 rfl).trans ?_
  refine (s_go mt_X9_placeOf dX9_placeOf_29 rfl).trans ?_
  exact rfl
theorem e_X9_placeOf_32 (sc : SC) (x0 : Int32) (x1 : Int32) (h : AH) : Run sc n_X9_placeOf 32 [aI x0, aI x1] none [] h = Run sc n_X9_placeOf 33 [aI x0, aI x1] none [aI x1] h := by
  refine (s_go mt_X9_placeOf dX9_placeOf_32 rfl).trans ?_
  exact rfl
theorem e_X9_placeOf_33 (sc : SC) (x0 : Int32) (x1 : Int32) (y0 : Int32) (h : AH) : Run sc n_X9_placeOf 33 [aI x0, aI x1] none [aI y0] h = some (.inl (some (aI y0)), h) := by
  exact q_ret (c := (some (aI y0), h)) mt_X9_placeOf dX9_placeOf_33 rfl
/-! BranchSlotFiller.setInitial(ZII)I -/
theorem e_X9_setInitial_0 (sc : SC) (p0 : Nat) (x1 : Int32) (x2 : Int32) (x3 : Int32) (v4 : AV) (v5 : AV) (h : AH) : Run sc n_X9_setInitial 0 [aD p0, aI x1, aI x2, aI x3, v4, v5] none [] h = bC (Call sc n_X9_placeOf [aI x1, aI x2] h) (fun v z => Run sc n_X9_setInitial 5 [aD p0, aI x1, aI x2, aI x3, v4, v5] none (v.toList ++ []) z) (fun E z => some (.inr E, z)) := by
  refine (s_go mt_X9_setInitial dX9_setInitial_0 rfl).trans ?_
  refine (s_go mt_X9_setInitial dX9_setInitial_1 rfl).trans ?_
  exact q_cS mt_X9_setInitial dX9_setInitial_2 rfl mt_X9_placeOf rfl rfl
theorem e_X9_setInitial_13 (sc : SC) (p0 : Nat) (x1 : Int32) (x2 : Int32) (x3 : Int32) (x4 : Int32) (v5 : AV) (h : AH) : Run sc n_X9_setInitial 13 [aD p0, aI x1, aI x2, aI x3, aI x4, v5] none [] h = some (.inr 2, (h.1, h.2 + 1)) := by
  exact q_new mt_X9_setInitial dX9_setInitial_13 rfl (throwA_S rfl (Nat.le_of_ble_eq_true rfl) dX9_setInitial_16 dX9_setInitial_17 dX9_setInitial_19 dX9_setInitial_22 rfl rfl)
theorem e_X9_setInitial_23 (sc : SC) (p0 : Nat) (x1 : Int32) (x2 : Int32) (x3 : Int32) (x4 : Int32) (v5 : AV) (h : AH) : Run sc n_X9_setInitial 23 [aD p0, aI x1, aI x2, aI x3, aI x4, v5] none [] h = bF (getF sc h (aD p0) 11 7) (fun z => Run sc n_X9_setInitial 27 [aD p0, aI x1, aI x2, aI x3, aI x4, v5] none [z] h) := by
  refine (s_go mt_X9_setInitial dX9_setInitial_23 rfl).trans ?_
  exact q_getfield mt_X9_setInitial dX9_setInitial_24 rfl
theorem e_X9_setInitial_5 (sc : SC) (p0 : Nat) (x1 : Int32) (x2 : Int32) (x3 : Int32) (v4 : AV) (v5 : AV) (y0 : Int32) (h : AH) : Run sc n_X9_setInitial 5 [aD p0, aI x1, aI x2, aI x3, v4, v5] none [aI y0] h = Run sc n_X9_setInitial (if ¬ y0 = (-1) then 23 else 13) [aD p0, aI x1, aI x2, aI x3, aI y0, v5] none [] h := by
  refine (s_go mt_X9_setInitial dX9_setInitial_5 rfl).trans ?_
  refine (s_go mt_X9_setInitial dX9_setInitial_7 rfl).trans ?_
  refine (s_go mt_X9_setInitial dX9_setInitial_9 rfl).trans ?_
  exact q_icmp mt_X9_setInitial dX9_setInitial_10 (fun _ _ _ _ => rfl) rfl
theorem e_X9_setInitial_27 (sc : SC) (p0 : Nat) (x1 : Int32) (x2 : Int32) (x3 : Int32) (x4 : Int32) (v5 : AV) (q0 : Nat) (h : AH) : Run sc n_X9_setInitial 27 [aD p0, aI x1, aI x2, aI x3, aI x4, v5] none [aD q0] h = bO (ldI sc h (fun t => t == 0) (aD q0) x4) (fun z => Run sc n_X9_setInitial 30 [aD p0, aI x1, aI x2, aI x3, aI x4, v5] none [aI z] h) := by
  refine (s_go mt_X9_setInitial dX9_setInitial_27 rfl).trans ?_
  exact q_iaload mt_X9_setInitial dX9_setInitial_29
theorem e_X9_setInitial_30 (sc : SC) (p0 : Nat) (x1 : Int32) (x2 : Int32) (x3 : Int32) (x4 : Int32) (v5 : AV) (y0 : Int32) (h : AH) : Run sc n_X9_setInitial 30 [aD p0, aI x1, aI x2, aI x3, aI x4, v5] none [aI y0] h = bF (getF sc h (aD p0) 11 7) (fun z => Run sc n_X9_setInitial 36 [aD p0, aI x1, aI x2, aI x3, aI x4, aI y0] none [z] h) := by
  refine (s_go mt_X9_setInitial dX9_setInitial_30 rfl).trans ?_
  refine (s_go mt_X9_setInitial dX9_setInitial_32 rfl).trans ?_
  exact q_getfield mt_X9_setInitial dX9_setInitial_33 rfl
theorem e_X9_setInitial_36 (sc : SC) (p0 : Nat) (x1 : Int32) (x2 : Int32) (x3 : Int32) (x4 : Int32) (x5 : Int32) (q0 : Nat) (h : AH) : Run sc n_X9_setInitial 36 [aD p0, aI x1, aI x2, aI x3, aI x4, aI x5] none [aD q0] h = bO (stI h (fun t => t == 0) q0 x4 x3) (fun z => Run sc n_X9_setInitial 40 [aD p0, aI x1, aI x2, aI x3, aI x4, aI x5] none [] z) := by
  refine (s_go mt_X9_setInitial dX9_setInitial_36 rfl).trans ?_
  refine (s_go mt_X9_setInitial dX9_setInitial_38 rfl).trans ?_
  exact q_iastore mt_X9_setInitial dX9_setInitial_39
theorem e_X9_setInitial_40 (sc : SC) (p0 : Nat) (x1 : Int32) (x2 : Int32) (x3 : Int32) (x4 : Int32) (x5 : Int32) (h : AH) : Run sc n_X9_setInitial 40 [aD p0, aI x1, aI x2, aI x3, aI x4, aI x5] none [] h = some (.inl (some (aI x5)), h) := by
  refine (s_go mt_X9_setInitial dX9_setInitial_40 rfl).trans ?_
  exact q_ret (c := (some (aI x5), h)) mt_X9_setInitial dX9_setInitial_42 rfl
/-! BranchSlotFiller.run(ZI)I -/
theorem e_X9_run_0 (sc : SC) (p0 : Nat) (x1 : Int32) (x2 : Int32) (v3 : AV) (h : AH) : Run sc n_X9_run 0 [aD p0, aI x1, aI x2, v3] none [] h = Run sc n_X9_run (if x2 < (nI 1) then 12 else 5) [aD p0, aI x1, aI x2, v3] none [] h := by
  refine (s_go mt_X9_run dX9_run_0 rfl).trans ?_
  refine (s_go mt_X9_run dX9_run_1 rfl).trans ?_
  exact q_icmp mt_X9_run dX9_run_2 (fun _ _ _ _ => rfl) rfl
theorem e_X9_run_5 (sc : SC) (p0 : Nat) (x1 : Int32) (x2 : Int32) (v3 : AV) (h : AH) : Run sc n_X9_run 5 [aD p0, aI x1, aI x2, v3] none [] h = Run sc n_X9_run (if x2 ≤ (nI 2000) then 22 else 12) [aD p0, aI x1, aI x2, v3] none [] h := by
  refine (s_go mt_X9_run dX9_run_5 rfl).trans ?_
  refine (s_go mt_X9_run dX9_run_6 rfl).trans ?_
  exact q_icmp mt_X9_run dX9_run_9 (fun _ _ _ _ => rfl) rfl
theorem e_X9_run_12 (sc : SC) (p0 : Nat) (x1 : Int32) (x2 : Int32) (v3 : AV) (h : AH) : Run sc n_X9_run 12 [aD p0, aI x1, aI x2, v3] none [] h = some (.inr 1, (h.1, h.2 + 1)) := by
  exact q_new mt_X9_run dX9_run_12 rfl (throwA_S rfl (Nat.le_of_ble_eq_true rfl) dX9_run_15 dX9_run_16 dX9_run_18 dX9_run_21 rfl rfl)
theorem e_X9_run_22 (sc : SC) (p0 : Nat) (x1 : Int32) (x2 : Int32) (v3 : AV) (h : AH) : Run sc n_X9_run 22 [aD p0, aI x1, aI x2, v3] none [] h = bF (getF sc h (aD p0) 11 10) (fun z => Run sc n_X9_run 26 [aD p0, aI x1, aI x2, v3] none [z] h) := by
  refine (s_go mt_X9_run dX9_run_22 rfl).trans ?_
  exact q_getfield mt_X9_run dX9_run_23 rfl
theorem e_X9_run_30 (sc : SC) (p0 : Nat) (x1 : Int32) (x2 : Int32) (v3 : AV) (q0 : Nat) (h : AH) : Run sc n_X9_run 30 [aD p0, aI x1, aI x2, v3] none [aD q0] h = bF (getF sc h (aD p0) 11 3) (fun z => Run sc n_X9_run 34 [aD p0, aI x1, aI x2, v3] none [z, aD q0] h) := by
  refine (s_go mt_X9_run dX9_run_30 rfl).trans ?_
  exact q_getfield mt_X9_run dX9_run_31 rfl
theorem e_X9_run_37 (sc : SC) (p0 : Nat) (x1 : Int32) (x2 : Int32) (v3 : AV) (q0 : Nat) (h : AH) : Run sc n_X9_run 37 [aD p0, aI x1, aI x2, v3] none [aD q0] h = bF (getF sc h (aD p0) 11 2) (fun z => Run sc n_X9_run 41 [aD p0, aI x1, aI x2, v3] none [z, aD q0] h) := by
  refine (s_go mt_X9_run dX9_run_37 rfl).trans ?_
  exact q_getfield mt_X9_run dX9_run_38 rfl
theorem e_X9_run_41 (sc : SC) (p0 : Nat) (x1 : Int32) (x2 : Int32) (v3 : AV) (q0 : Nat) (q1 : Nat) (h : AH) : Run sc n_X9_run 41 [aD p0, aI x1, aI x2, v3] none [aD q1, aD q0] h = bF (getF sc h (aD p0) 11 7) (fun z => Run sc n_X9_run 46 [aD p0, aI x1, aI x2, v3] none [z, aI x1, aD q1, aD q0] h) := by
  refine (s_go mt_X9_run dX9_run_41 rfl).trans ?_
  refine (s_go mt_X9_run dX9_run_42 rfl).trans ?_
  exact q_getfield mt_X9_run dX9_run_43 rfl
theorem e_X9_run_53 (sc : SC) (p0 : Nat) (x1 : Int32) (x2 : Int32) (v3 : AV) (h : AH) : Run sc n_X9_run 53 [aD p0, aI x1, aI x2, v3] none [] h = some (.inr 4, (h.1, h.2 + 1)) := by
  exact q_new mt_X9_run dX9_run_53 rfl (throwA_S rfl (Nat.le_of_ble_eq_true rfl) dX9_run_56 dX9_run_57 dX9_run_59 dX9_run_62 rfl rfl)
theorem e_X9_run_63 (sc : SC) (p0 : Nat) (x1 : Int32) (x2 : Int32) (v3 : AV) (h : AH) : Run sc n_X9_run 63 [aD p0, aI x1, aI x2, v3] none [] h = bF (getF sc h (aD p0) 11 9) (fun z => Run sc n_X9_run 67 [aD p0, aI x1, aI x2, v3] none [z] h) := by
  refine (s_go mt_X9_run dX9_run_63 rfl).trans ?_
  exact q_getfield mt_X9_run dX9_run_64 rfl
theorem e_X9_run_26 (sc : SC) (p0 : Nat) (x1 : Int32) (x2 : Int32) (v3 : AV) (q0 : Nat) (h : AH) : Run sc n_X9_run 26 [aD p0, aI x1, aI x2, v3] none [aD q0] h = Run sc n_X9_run (if x1 = 0 then 37 else 30) [aD p0, aI x1, aI x2, v3] none [aD q0] h := by
  refine (s_go mt_X9_run dX9_run_26 rfl).trans ?_
  exact q_if mt_X9_run dX9_run_27 (fun _ _ _ _ => rfl) rfl
theorem e_X9_run_34 (sc : SC) (p0 : Nat) (x1 : Int32) (x2 : Int32) (v3 : AV) (q0 : Nat) (q1 : Nat) (h : AH) : Run sc n_X9_run 34 [aD p0, aI x1, aI x2, v3] none [aD q1, aD q0] h = Run sc n_X9_run 41 [aD p0, aI x1, aI x2, v3] none [aD q1, aD q0] h := by
  refine (s_go mt_X9_run dX9_run_34 rfl).trans ?_
  exact rfl
theorem e_X9_run_46 (sc : SC) (p0 : Nat) (x1 : Int32) (x2 : Int32) (v3 : AV) (q0 : Nat) (q1 : Nat) (y2 : Int32) (q3 : Nat) (h : AH) : Run sc n_X9_run 46 [aD p0, aI x1, aI x2, v3] none [aD q3, aI y2, aD q1, aD q0] h = bI (rOK sc h (aD q0) 7 = true) (bC (Call sc n_X5_executes [aD q0, aD q1, aI y2, aD q3, aI x2] h) (fun v z => Run sc n_X9_run 50 [aD p0, aI x1, aI x2, v3] none (v.toList ++ []) z) (fun E z => some (.inr E, z))) := by
  refine (s_go mt_X9_run dX9_run_46 rfl).trans ?_
  exact q_cV mt_X9_run dX9_run_47 rfl mt_X5_executes rfl rfl rfl
theorem e_X9_run_67 (sc : SC) (p0 : Nat) (x1 : Int32) (x2 : Int32) (v3 : AV) (q0 : Nat) (h : AH) : Run sc n_X9_run 67 [aD p0, aI x1, aI x2, v3] none [aD q0] h = bF (getF sc h (aD p0) 11 10) (fun z => Run sc n_X9_run 73 [aD p0, aI x1, aI x2, aD q0] none [z, aD p0] h) := by
  refine (s_go mt_X9_run dX9_run_67 rfl).trans ?_
  refine (s_go mt_X9_run dX9_run_68 rfl).trans ?_
  refine (s_go mt_X9_run dX9_run_69 rfl).trans ?_
  exact q_getfield mt_X9_run dX9_run_70 rfl
theorem e_X9_run_50 (sc : SC) (p0 : Nat) (x1 : Int32) (x2 : Int32) (v3 : AV) (y0 : Int32) (h : AH) : Run sc n_X9_run 50 [aD p0, aI x1, aI x2, v3] none [aI y0] h = Run sc n_X9_run (if ¬ y0 = 0 then 63 else 53) [aD p0, aI x1, aI x2, v3] none [] h := by
  exact q_if mt_X9_run dX9_run_50 (fun _ _ _ _ => rfl) rfl
theorem e_X9_run_73 (sc : SC) (p0 : Nat) (x1 : Int32) (x2 : Int32) (p3 : Nat) (q0 : Nat) (q1 : Nat) (h : AH) : Run sc n_X9_run 73 [aD p0, aI x1, aI x2, aD p3] none [aD q1, aD q0] h = bO (putF h q0 11 9 3 (aD q1)) (fun z => Run sc n_X9_run 76 [aD p0, aI x1, aI x2, aD p3] none [] z) := by
  exact q_putfield mt_X9_run dX9_run_73 rfl rfl rfl rfl
theorem e_X9_run_76 (sc : SC) (p0 : Nat) (x1 : Int32) (x2 : Int32) (p3 : Nat) (h : AH) : Run sc n_X9_run 76 [aD p0, aI x1, aI x2, aD p3] none [] h = bO (putF h p0 11 10 3 (aD p3)) (fun z => Run sc n_X9_run 81 [aD p0, aI x1, aI x2, aD p3] none [] z) := by
  refine (s_go mt_X9_run dX9_run_76 rfl).trans ?_
  refine (s_go mt_X9_run dX9_run_77 rfl).trans ?_
  exact q_putfield mt_X9_run dX9_run_78 rfl rfl rfl rfl
theorem e_X9_run_81 (sc : SC) (p0 : Nat) (x1 : Int32) (x2 : Int32) (p3 : Nat) (h : AH) : Run sc n_X9_run 81 [aD p0, aI x1, aI x2, aD p3] none [] h = bO (putF h p0 11 12 1 (aI (nI 1))) (fun z => Run sc n_X9_run 86 [aD p0, aI x1, aI x2, aD p3] none [] z) := by
  refine (s_go mt_X9_run dX9_run_81 rfl).trans ?_
  refine (s_go mt_X9_run dX9_run_82 rfl).trans ?_
  exact q_putfield mt_X9_run dX9_run_83 rfl rfl rfl rfl
theorem e_X9_run_86 (sc : SC) (p0 : Nat) (x1 : Int32) (x2 : Int32) (p3 : Nat) (h : AH) : Run sc n_X9_run 86 [aD p0, aI x1, aI x2, aD p3] none [] h = bF (getF sc h (aD p0) 11 9) (fun z => Run sc n_X9_run 90 [aD p0, aI x1, aI x2, aD p3] none [z] h) := by
  refine (s_go mt_X9_run dX9_run_86 rfl).trans ?_
  exact q_getfield mt_X9_run dX9_run_87 rfl
theorem e_X9_run_90 (sc : SC) (p0 : Nat) (x1 : Int32) (x2 : Int32) (p3 : Nat) (q0 : Nat) (h : AH) : Run sc n_X9_run 90 [aD p0, aI x1, aI x2, aD p3] none [aD q0] h = bF (getF sc h (aD q0) 7 3) (fun z => Run sc n_X9_run 93 [aD p0, aI x1, aI x2, aD p3] none [z] h) := by
  exact q_getfield mt_X9_run dX9_run_90 rfl
theorem e_X9_run_93 (sc : SC) (p0 : Nat) (x1 : Int32) (x2 : Int32) (p3 : Nat) (y0 : Int32) (h : AH) : Run sc n_X9_run 93 [aD p0, aI x1, aI x2, aD p3] none [aI y0] h = some (.inl (some (aI y0)), h) := by
  exact q_ret (c := (some (aI y0), h)) mt_X9_run dX9_run_93 rfl
/-! BranchSlotFiller.checkKept()V -/
theorem e_X9_checkKept_0 (sc : SC) (p0 : Nat) (h : AH) : Run sc n_X9_checkKept 0 [aD p0] none [] h = bF (getF sc h (aD p0) 11 12) (fun z => Run sc n_X9_checkKept 4 [aD p0] none [z] h) := by
  refine (s_go mt_X9_checkKept dX9_checkKept_0 rfl).trans ?_
  exact q_getfield mt_X9_checkKept dX9_checkKept_1 rfl
theorem e_X9_checkKept_7 (sc : SC) (p0 : Nat) (h : AH) : Run sc n_X9_checkKept 7 [aD p0] none [] h = some (.inr 0, (h.1, h.2 + 1)) := by
  exact q_new mt_X9_checkKept dX9_checkKept_7 rfl (throwA_W rfl (Nat.le_of_ble_eq_true rfl) dX9_checkKept_10 dX9_checkKept_11 dX9_checkKept_14 dX9_checkKept_17 rfl rfl)
theorem e_X9_checkKept_18 (sc : SC) (p0 : Nat) (h : AH) : Run sc n_X9_checkKept 18 [aD p0] none [] h = some (.inl none, h) := by
  exact q_ret (c := (none, h)) mt_X9_checkKept dX9_checkKept_18 rfl
theorem e_X9_checkKept_4 (sc : SC) (p0 : Nat) (y0 : Int32) (h : AH) : Run sc n_X9_checkKept 4 [aD p0] none [aI y0] h = Run sc n_X9_checkKept (if ¬ y0 = 0 then 18 else 7) [aD p0] none [] h := by
  exact q_if mt_X9_checkKept dX9_checkKept_4 (fun _ _ _ _ => rfl) rfl
/-! BranchSlotFiller.finalValue(ZI)I -/
theorem e_X9_finalValue_0 (sc : SC) (p0 : Nat) (x1 : Int32) (x2 : Int32) (v3 : AV) (h : AH) : Run sc n_X9_finalValue 0 [aD p0, aI x1, aI x2, v3] none [] h = bI (rOK sc h (aD p0) 11 = true) (bC (Call sc n_X9_checkKept [aD p0] h) (fun v z => Run sc n_X9_finalValue 4 [aD p0, aI x1, aI x2, v3] none (v.toList ++ []) z) (fun E z => some (.inr E, z))) := by
  refine (s_go mt_X9_finalValue dX9_finalValue_0 rfl).trans ?_
  exact q_cV mt_X9_finalValue dX9_finalValue_1 rfl mt_X9_checkKept rfl rfl rfl
theorem e_X9_finalValue_15 (sc : SC) (p0 : Nat) (x1 : Int32) (x2 : Int32) (x3 : Int32) (h : AH) : Run sc n_X9_finalValue 15 [aD p0, aI x1, aI x2, aI x3] none [] h = some (.inr 2, (h.1, h.2 + 1)) := by
  exact q_new mt_X9_finalValue dX9_finalValue_15 rfl (throwA_S rfl (Nat.le_of_ble_eq_true rfl) dX9_finalValue_18 dX9_finalValue_19 dX9_finalValue_21 dX9_finalValue_24 rfl rfl)
theorem e_X9_finalValue_25 (sc : SC) (p0 : Nat) (x1 : Int32) (x2 : Int32) (x3 : Int32) (h : AH) : Run sc n_X9_finalValue 25 [aD p0, aI x1, aI x2, aI x3] none [] h = bF (getF sc h (aD p0) 11 9) (fun z => Run sc n_X9_finalValue 29 [aD p0, aI x1, aI x2, aI x3] none [z] h) := by
  refine (s_go mt_X9_finalValue dX9_finalValue_25 rfl).trans ?_
  exact q_getfield mt_X9_finalValue dX9_finalValue_26 rfl
theorem e_X9_finalValue_4 (sc : SC) (p0 : Nat) (x1 : Int32) (x2 : Int32) (v3 : AV) (h : AH) : Run sc n_X9_finalValue 4 [aD p0, aI x1, aI x2, v3] none [] h = bC (Call sc n_X9_placeOf [aI x1, aI x2] h) (fun v z => Run sc n_X9_finalValue 9 [aD p0, aI x1, aI x2, v3] none (v.toList ++ []) z) (fun E z => some (.inr E, z)) := by
  refine (s_go mt_X9_finalValue dX9_finalValue_4 rfl).trans ?_
  refine (s_go mt_X9_finalValue dX9_finalValue_5 rfl).trans ?_
  exact q_cS mt_X9_finalValue dX9_finalValue_6 rfl mt_X9_placeOf rfl rfl
theorem e_X9_finalValue_29 (sc : SC) (p0 : Nat) (x1 : Int32) (x2 : Int32) (x3 : Int32) (q0 : Nat) (h : AH) : Run sc n_X9_finalValue 29 [aD p0, aI x1, aI x2, aI x3] none [aD q0] h = bF (getF sc h (aD q0) 7 0) (fun z => Run sc n_X9_finalValue 32 [aD p0, aI x1, aI x2, aI x3] none [z] h) := by
  exact q_getfield mt_X9_finalValue dX9_finalValue_29 rfl
theorem e_X9_finalValue_9 (sc : SC) (p0 : Nat) (x1 : Int32) (x2 : Int32) (v3 : AV) (y0 : Int32) (h : AH) : Run sc n_X9_finalValue 9 [aD p0, aI x1, aI x2, v3] none [aI y0] h = Run sc n_X9_finalValue (if ¬ y0 = (-1) then 25 else 15) [aD p0, aI x1, aI x2, aI y0] none [] h := by
  refine (s_go mt_X9_finalValue dX9_finalValue_9 rfl).trans ?_
  refine (s_go mt_X9_finalValue dX9_finalValue_10 rfl).trans ?_
  refine (s_go mt_X9_finalValue dX9_finalValue_11 rfl).trans ?_
  exact q_icmp mt_X9_finalValue dX9_finalValue_12 (fun _ _ _ _ => rfl) rfl
theorem e_X9_finalValue_32 (sc : SC) (p0 : Nat) (x1 : Int32) (x2 : Int32) (x3 : Int32) (q0 : Nat) (h : AH) : Run sc n_X9_finalValue 32 [aD p0, aI x1, aI x2, aI x3] none [aD q0] h = bO (ldI sc h (fun t => t == 0) (aD q0) x3) (fun z => Run sc n_X9_finalValue 34 [aD p0, aI x1, aI x2, aI x3] none [aI z] h) := by
  refine (s_go mt_X9_finalValue dX9_finalValue_32 rfl).trans ?_
  exact q_iaload mt_X9_finalValue dX9_finalValue_33
theorem e_X9_finalValue_34 (sc : SC) (p0 : Nat) (x1 : Int32) (x2 : Int32) (x3 : Int32) (y0 : Int32) (h : AH) : Run sc n_X9_finalValue 34 [aD p0, aI x1, aI x2, aI x3] none [aI y0] h = some (.inl (some (aI y0)), h) := by
  exact q_ret (c := (some (aI y0), h)) mt_X9_finalValue dX9_finalValue_34 rfl
/-! BranchSlotFiller.outputs()I -/
theorem e_X9_outputs_0 (sc : SC) (p0 : Nat) (h : AH) : Run sc n_X9_outputs 0 [aD p0] none [] h = bI (rOK sc h (aD p0) 11 = true) (bC (Call sc n_X9_checkKept [aD p0] h) (fun v z => Run sc n_X9_outputs 4 [aD p0] none (v.toList ++ []) z) (fun E z => some (.inr E, z))) := by
  refine (s_go mt_X9_outputs dX9_outputs_0 rfl).trans ?_
  exact q_cV mt_X9_outputs dX9_outputs_1 rfl mt_X9_checkKept rfl rfl rfl
theorem e_X9_outputs_4 (sc : SC) (p0 : Nat) (h : AH) : Run sc n_X9_outputs 4 [aD p0] none [] h = bF (getF sc h (aD p0) 11 9) (fun z => Run sc n_X9_outputs 8 [aD p0] none [z] h) := by
  refine (s_go mt_X9_outputs dX9_outputs_4 rfl).trans ?_
  exact q_getfield mt_X9_outputs dX9_outputs_5 rfl
theorem e_X9_outputs_8 (sc : SC) (p0 : Nat) (q0 : Nat) (h : AH) : Run sc n_X9_outputs 8 [aD p0] none [aD q0] h = bF (getF sc h (aD q0) 7 2) (fun z => Run sc n_X9_outputs 11 [aD p0] none [z] h) := by
  exact q_getfield mt_X9_outputs dX9_outputs_8 rfl
theorem e_X9_outputs_11 (sc : SC) (p0 : Nat) (y0 : Int32) (h : AH) : Run sc n_X9_outputs 11 [aD p0] none [aI y0] h = some (.inl (some (aI y0)), h) := by
  exact q_ret (c := (some (aI y0), h)) mt_X9_outputs dX9_outputs_11 rfl
/-! BranchSlotFiller.output(I)I -/
theorem e_X9_output_0 (sc : SC) (p0 : Nat) (x1 : Int32) (h : AH) : Run sc n_X9_output 0 [aD p0, aI x1] none [] h = bI (rOK sc h (aD p0) 11 = true) (bC (Call sc n_X9_checkKept [aD p0] h) (fun v z => Run sc n_X9_output 4 [aD p0, aI x1] none (v.toList ++ []) z) (fun E z => some (.inr E, z))) := by
  refine (s_go mt_X9_output dX9_output_0 rfl).trans ?_
  exact q_cV mt_X9_output dX9_output_1 rfl mt_X9_checkKept rfl rfl rfl
theorem e_X9_output_8 (sc : SC) (p0 : Nat) (x1 : Int32) (h : AH) : Run sc n_X9_output 8 [aD p0, aI x1] none [] h = bF (getF sc h (aD p0) 11 9) (fun z => Run sc n_X9_output 13 [aD p0, aI x1] none [z, aI x1] h) := by
  refine (s_go mt_X9_output dX9_output_8 rfl).trans ?_
  refine (s_go mt_X9_output dX9_output_9 rfl).trans ?_
  exact q_getfield mt_X9_output dX9_output_10 rfl
theorem e_X9_output_19 (sc : SC) (p0 : Nat) (x1 : Int32) (h : AH) : Run sc n_X9_output 19 [aD p0, aI x1] none [] h = some (.inr 2, (h.1, h.2 + 1)) := by
  exact q_new mt_X9_output dX9_output_19 rfl (throwA_W rfl (Nat.le_of_ble_eq_true rfl) dX9_output_22 dX9_output_23 dX9_output_26 dX9_output_29 rfl rfl)
theorem e_X9_output_30 (sc : SC) (p0 : Nat) (x1 : Int32) (h : AH) : Run sc n_X9_output 30 [aD p0, aI x1] none [] h = bF (getF sc h (aD p0) 11 9) (fun z => Run sc n_X9_output 34 [aD p0, aI x1] none [z] h) := by
  refine (s_go mt_X9_output dX9_output_30 rfl).trans ?_
  exact q_getfield mt_X9_output dX9_output_31 rfl
theorem e_X9_output_4 (sc : SC) (p0 : Nat) (x1 : Int32) (h : AH) : Run sc n_X9_output 4 [aD p0, aI x1] none [] h = Run sc n_X9_output (if x1 < 0 then 19 else 8) [aD p0, aI x1] none [] h := by
  refine (s_go mt_X9_output dX9_output_4 rfl).trans ?_
  exact q_if mt_X9_output dX9_output_5 (fun _ _ _ _ => rfl) rfl
theorem e_X9_output_13 (sc : SC) (p0 : Nat) (x1 : Int32) (y0 : Int32) (q1 : Nat) (h : AH) : Run sc n_X9_output 13 [aD p0, aI x1] none [aD q1, aI y0] h = bF (getF sc h (aD q1) 7 2) (fun z => Run sc n_X9_output 16 [aD p0, aI x1] none [z, aI y0] h) := by
  exact q_getfield mt_X9_output dX9_output_13 rfl
theorem e_X9_output_34 (sc : SC) (p0 : Nat) (x1 : Int32) (q0 : Nat) (h : AH) : Run sc n_X9_output 34 [aD p0, aI x1] none [aD q0] h = bF (getF sc h (aD q0) 7 1) (fun z => Run sc n_X9_output 37 [aD p0, aI x1] none [z] h) := by
  exact q_getfield mt_X9_output dX9_output_34 rfl
theorem e_X9_output_16 (sc : SC) (p0 : Nat) (x1 : Int32) (y0 : Int32) (y1 : Int32) (h : AH) : Run sc n_X9_output 16 [aD p0, aI x1] none [aI y1, aI y0] h = Run sc n_X9_output (if y0 < y1 then 30 else 19) [aD p0, aI x1] none [] h := by
  exact q_icmp mt_X9_output dX9_output_16 (fun _ _ _ _ => rfl) rfl
theorem e_X9_output_37 (sc : SC) (p0 : Nat) (x1 : Int32) (q0 : Nat) (h : AH) : Run sc n_X9_output 37 [aD p0, aI x1] none [aD q0] h = bO (ldI sc h (fun t => t == 0) (aD q0) x1) (fun z => Run sc n_X9_output 39 [aD p0, aI x1] none [aI z] h) := by
  refine (s_go mt_X9_output dX9_output_37 rfl).trans ?_
  exact q_iaload mt_X9_output dX9_output_38
theorem e_X9_output_39 (sc : SC) (p0 : Nat) (x1 : Int32) (y0 : Int32) (h : AH) : Run sc n_X9_output 39 [aD p0, aI x1] none [aI y0] h = some (.inl (some (aI y0)), h) := by
  exact q_ret (c := (some (aI y0), h)) mt_X9_output dX9_output_39 rfl
/-! BranchSlotFiller.checkDrawn(I)V -/
theorem e_X9_checkDrawn_0 (sc : SC) (x0 : Int32) (h : AH) : Run sc n_X9_checkDrawn 0 [aI x0] none [] h = Run sc n_X9_checkDrawn (if x0 < (nI 1) then 11 else 5) [aI x0] none [] h := by
  refine (s_go mt_X9_checkDrawn dX9_checkDrawn_0 rfl).trans ?_
  refine (s_go mt_X9_checkDrawn dX9_checkDrawn_1 rfl).trans ?_
  exact q_icmp mt_X9_checkDrawn dX9_checkDrawn_2 (fun _ _ _ _ => rfl) rfl
theorem e_X9_checkDrawn_5 (sc : SC) (x0 : Int32) (h : AH) : Run sc n_X9_checkDrawn 5 [aI x0] none [] h = Run sc n_X9_checkDrawn (if x0 ≤ (nI 50) then 22 else 11) [aI x0] none [] h := by
  refine (s_go mt_X9_checkDrawn dX9_checkDrawn_5 rfl).trans ?_
  refine (s_go mt_X9_checkDrawn dX9_checkDrawn_6 rfl).trans ?_
  exact q_icmp mt_X9_checkDrawn dX9_checkDrawn_8 (fun _ _ _ _ => rfl) rfl
theorem e_X9_checkDrawn_11 (sc : SC) (x0 : Int32) (h : AH) : Run sc n_X9_checkDrawn 11 [aI x0] none [] h = some (.inr 1, (h.1, h.2 + 1)) := by
  exact q_new mt_X9_checkDrawn dX9_checkDrawn_11 rfl (throwA_W rfl (Nat.le_of_ble_eq_true rfl) dX9_checkDrawn_14 dX9_checkDrawn_15 dX9_checkDrawn_18 dX9_checkDrawn_21 rfl rfl)
theorem e_X9_checkDrawn_22 (sc : SC) (x0 : Int32) (h : AH) : Run sc n_X9_checkDrawn 22 [aI x0] none [] h = some (.inl none, h) := by
  exact q_ret (c := (none, h)) mt_X9_checkDrawn dX9_checkDrawn_22 rfl
/-! BranchSlotFiller.drawInitial(I)I -/
theorem e_X9_drawInitial_0 (sc : SC) (p0 : Nat) (x1 : Int32) (v2 : AV) (v3 : AV) (h : AH) : Run sc n_X9_drawInitial 0 [aD p0, aI x1, v2, v3] none [] h = Run sc n_X9_drawInitial 4 [aD p0, aI x1, aI x1, aI (nI 0)] none [] h := by
  refine (s_go mt_X9_drawInitial dX9_drawInitial_0 rfl).trans ?_
  refine (s_go mt_X9_drawInitial dX9_drawInitial_1 rfl).trans ?_
  refine (s_go mt_X9_drawInitial dX9_drawInitial_2 rfl).trans ?_
  refine (s_go mt_X9_drawInitial dX9_drawInitial_3 rfl).trans ?_
  exact rfl
theorem e_X9_drawInitial_4 (sc : SC) (p0 : Nat) (x1 : Int32) (x2 : Int32) (x3 : Int32) (h : AH) : Run sc n_X9_drawInitial 4 [aD p0, aI x1, aI x2, aI x3] none [] h = bF (getF sc h (aD p0) 11 8) (fun z => Run sc n_X9_drawInitial 9 [aD p0, aI x1, aI x2, aI x3] none [z, aI x3] h) := by
  refine (s_go mt_X9_drawInitial dX9_drawInitial_4 rfl).trans ?_
  refine (s_go mt_X9_drawInitial dX9_drawInitial_5 rfl).trans ?_
  exact q_getfield mt_X9_drawInitial dX9_drawInitial_6 rfl
theorem e_X9_drawInitial_13 (sc : SC) (p0 : Nat) (x1 : Int32) (x2 : Int32) (x3 : Int32) (h : AH) : Run sc n_X9_drawInitial 13 [aD p0, aI x1, aI x2, aI x3] none [] h = bF (getF sc h (aD p0) 11 8) (fun z => Run sc n_X9_drawInitial 27 [aD p0, aI x1, aI ((x2 * (nI 1103515245)) + (nI 12345)), aI x3] none [z] h) := by
  refine (s_go mt_X9_drawInitial dX9_drawInitial_13 rfl).trans ?_
  refine (s_go mt_X9_drawInitial dX9_drawInitial_14 rfl).trans ?_
  refine (s_go mt_X9_drawInitial dX9_drawInitial_17 rfl).trans ?_
  refine (s_go mt_X9_drawInitial dX9_drawInitial_18 rfl).trans ?_
  refine (s_go mt_X9_drawInitial dX9_drawInitial_21 rfl).trans ?_
  refine (s_go mt_X9_drawInitial dX9_drawInitial_22 rfl).trans ?_
  refine (s_go mt_X9_drawInitial dX9_drawInitial_23 rfl).trans ?_
  exact q_getfield mt_X9_drawInitial dX9_drawInitial_24 rfl
theorem e_X9_drawInitial_42 (sc : SC) (p0 : Nat) (x1 : Int32) (x2 : Int32) (x3 : Int32) (h : AH) : Run sc n_X9_drawInitial 42 [aD p0, aI x1, aI x2, aI x3] none [] h = some (.inl (some (aI x2)), h) := by
  refine (s_go mt_X9_drawInitial dX9_drawInitial_42 rfl).trans ?_
  exact q_ret (c := (some (aI x2), h)) mt_X9_drawInitial dX9_drawInitial_43 rfl
theorem e_X9_drawInitial_9 (sc : SC) (p0 : Nat) (x1 : Int32) (x2 : Int32) (x3 : Int32) (y0 : Int32) (q1 : Nat) (h : AH) : Run sc n_X9_drawInitial 9 [aD p0, aI x1, aI x2, aI x3] none [aD q1, aI y0] h = bO (lenA sc h (aD q1)) (fun z => Run sc n_X9_drawInitial 10 [aD p0, aI x1, aI x2, aI x3] none [aI (nI z), aI y0] h) := by
  exact q_alen mt_X9_drawInitial dX9_drawInitial_9
theorem e_X9_drawInitial_27 (sc : SC) (p0 : Nat) (x1 : Int32) (x2 : Int32) (x3 : Int32) (q0 : Nat) (h : AH) : Run sc n_X9_drawInitial 27 [aD p0, aI x1, aI x2, aI x3] none [aD q0] h = bI (¬ (nI 10) = 0) (Run sc n_X9_drawInitial 35 [aD p0, aI x1, aI x2, aI x3] none [aI ((((x2).toUInt32 >>> ((nI 16).toUInt32 &&& Int32.toUInt32 31)).toInt32) - (((x2).toUInt32 >>> ((nI 16).toUInt32 &&& Int32.toUInt32 31)).toInt32) / (nI 10) * (nI 10)), aI x3, aD q0] h) := by
  refine (s_go mt_X9_drawInitial dX9_drawInitial_27 rfl).trans ?_
  refine (s_go mt_X9_drawInitial dX9_drawInitial_28 rfl).trans ?_
  refine (s_go mt_X9_drawInitial dX9_drawInitial_29 rfl).trans ?_
  refine (s_go mt_X9_drawInitial dX9_drawInitial_31 rfl).trans ?_
  refine (s_go mt_X9_drawInitial dX9_drawInitial_32 rfl).trans ?_
  exact q_irem mt_X9_drawInitial dX9_drawInitial_34
theorem e_X9_drawInitial_10 (sc : SC) (p0 : Nat) (x1 : Int32) (x2 : Int32) (x3 : Int32) (y0 : Int32) (y1 : Int32) (h : AH) : Run sc n_X9_drawInitial 10 [aD p0, aI x1, aI x2, aI x3] none [aI y1, aI y0] h = Run sc n_X9_drawInitial (if y1 ≤ y0 then 42 else 13) [aD p0, aI x1, aI x2, aI x3] none [] h := by
  exact q_icmp mt_X9_drawInitial dX9_drawInitial_10 (fun _ _ _ _ => rfl) rfl
theorem e_X9_drawInitial_35 (sc : SC) (p0 : Nat) (x1 : Int32) (x2 : Int32) (x3 : Int32) (q0 : Nat) (y1 : Int32) (y2 : Int32) (h : AH) : Run sc n_X9_drawInitial 35 [aD p0, aI x1, aI x2, aI x3] none [aI y2, aI y1, aD q0] h = bO (stI h (fun t => t == 0) q0 y1 y2) (fun z => Run sc n_X9_drawInitial 36 [aD p0, aI x1, aI x2, aI x3] none [] z) := by
  exact q_iastore mt_X9_drawInitial dX9_drawInitial_35
theorem e_X9_drawInitial_36 (sc : SC) (p0 : Nat) (x1 : Int32) (x2 : Int32) (x3 : Int32) (h : AH) : Run sc n_X9_drawInitial 36 [aD p0, aI x1, aI x2, aI x3] none [] h = Run sc n_X9_drawInitial 4 [aD p0, aI x1, aI x2, aI (x3 + nI 1)] none [] h := by
  refine (s_go mt_X9_drawInitial dX9_drawInitial_36 rfl).trans ?_
  refine (s_go mt_X9_drawInitial dX9_drawInitial_39 rfl).trans ?_
  exact rfl
/-! BranchSlotFiller.differences(II)I -/
theorem e_X9_differences_0 (sc : SC) (p0 : Nat) (x1 : Int32) (x2 : Int32) (v3 : AV) (v4 : AV) (v5 : AV) (v6 : AV) (v7 : AV) (h : AH) : Run sc n_X9_differences 0 [aD p0, aI x1, aI x2, v3, v4, v5, v6, v7] none [] h = bC (Call sc n_X9_checkDrawn [aI x2] h) (fun v z => Run sc n_X9_differences 4 [aD p0, aI x1, aI x2, v3, v4, v5, v6, v7] none (v.toList ++ []) z) (fun E z => some (.inr E, z)) := by
  refine (s_go mt_X9_differences dX9_differences_0 rfl).trans ?_
  exact q_cS mt_X9_differences dX9_differences_1 rfl mt_X9_checkDrawn rfl rfl
theorem e_X9_differences_12 (sc : SC) (p0 : Nat) (x1 : Int32) (x2 : Int32) (x3 : Int32) (x4 : Int32) (x5 : Int32) (v6 : AV) (v7 : AV) (h : AH) : Run sc n_X9_differences 12 [aD p0, aI x1, aI x2, aI x3, aI x4, aI x5, v6, v7] none [] h = Run sc n_X9_differences (if x2 ≤ x5 then 101 else 18) [aD p0, aI x1, aI x2, aI x3, aI x4, aI x5, v6, v7] none [] h := by
  refine (s_go mt_X9_differences dX9_differences_12 rfl).trans ?_
  refine (s_go mt_X9_differences dX9_differences_14 rfl).trans ?_
  exact q_icmp mt_X9_differences dX9_differences_15 (fun _ _ _ _ => rfl) rfl
theorem e_X9_differences_18 (sc : SC) (p0 : Nat) (x1 : Int32) (x2 : Int32) (x3 : Int32) (x4 : Int32) (x5 : Int32) (v6 : AV) (v7 : AV) (h : AH) : Run sc n_X9_differences 18 [aD p0, aI x1, aI x2, aI x3, aI x4, aI x5, v6, v7] none [] h = bI (rOK sc h (aD p0) 11 = true) (bC (Call sc n_X9_drawInitial [aD p0, aI x4] h) (fun v z => Run sc n_X9_differences 24 [aD p0, aI x1, aI x2, aI x3, aI x4, aI x5, v6, v7] none (v.toList ++ []) z) (fun E z => some (.inr E, z))) := by
  refine (s_go mt_X9_differences dX9_differences_18 rfl).trans ?_
  refine (s_go mt_X9_differences dX9_differences_19 rfl).trans ?_
  exact q_cV mt_X9_differences dX9_differences_21 rfl mt_X9_drawInitial rfl rfl rfl
theorem e_X9_differences_73 (sc : SC) (p0 : Nat) (x1 : Int32) (x2 : Int32) (x3 : Int32) (x4 : Int32) (x5 : Int32) (x6 : Int32) (x7 : Int32) (h : AH) : Run sc n_X9_differences 73 [aD p0, aI x1, aI x2, aI x3, aI x4, aI x5, aI x6, aI x7] none [] h = Run sc n_X9_differences (if x7 = 0 then 95 else 78) [aD p0, aI x1, aI x2, aI x3, aI x4, aI x5, aI x6, aI x7] none [] h := by
  refine (s_go mt_X9_differences dX9_differences_73 rfl).trans ?_
  exact q_if mt_X9_differences dX9_differences_75 (fun _ _ _ _ => rfl) rfl
theorem e_X9_differences_78 (sc : SC) (p0 : Nat) (x1 : Int32) (x2 : Int32) (x3 : Int32) (x4 : Int32) (x5 : Int32) (x6 : Int32) (x7 : Int32) (h : AH) : Run sc n_X9_differences 78 [aD p0, aI x1, aI x2, aI x3, aI x4, aI x5, aI x6, aI x7] none [] h = bF (getF sc h (aD p0) 11 10) (fun z => Run sc n_X9_differences 82 [aD p0, aI x1, aI x2, aI x3, aI x4, aI x5, aI x6, aI x7] none [z] h) := by
  refine (s_go mt_X9_differences dX9_differences_78 rfl).trans ?_
  exact q_getfield mt_X9_differences dX9_differences_79 rfl
theorem e_X9_differences_92 (sc : SC) (p0 : Nat) (x1 : Int32) (x2 : Int32) (x3 : Int32) (x4 : Int32) (x5 : Int32) (x6 : Int32) (x7 : Int32) (h : AH) : Run sc n_X9_differences 92 [aD p0, aI x1, aI x2, aI x3, aI x4, aI x5, aI x6, aI x7] none [] h = Run sc n_X9_differences 95 [aD p0, aI x1, aI x2, aI (x3 + nI 1), aI x4, aI x5, aI x6, aI x7] none [] h := by
  refine (s_go mt_X9_differences dX9_differences_92 rfl).trans ?_
  exact rfl
theorem e_X9_differences_95 (sc : SC) (p0 : Nat) (x1 : Int32) (x2 : Int32) (x3 : Int32) (x4 : Int32) (x5 : Int32) (x6 : Int32) (x7 : Int32) (h : AH) : Run sc n_X9_differences 95 [aD p0, aI x1, aI x2, aI x3, aI x4, aI x5, aI x6, aI x7] none [] h = Run sc n_X9_differences 12 [aD p0, aI x1, aI x2, aI x3, aI x4, aI (x5 + nI 1), aI x6, aI x7] none [] h := by
  refine (s_go mt_X9_differences dX9_differences_95 rfl).trans ?_
  refine (s_go mt_X9_differences dX9_differences_98 rfl).trans ?_
  exact rfl
theorem e_X9_differences_101 (sc : SC) (p0 : Nat) (x1 : Int32) (x2 : Int32) (x3 : Int32) (x4 : Int32) (x5 : Int32) (v6 : AV) (v7 : AV) (h : AH) : Run sc n_X9_differences 101 [aD p0, aI x1, aI x2, aI x3, aI x4, aI x5, v6, v7] none [] h = some (.inl (some (aI x3)), h) := by
  refine (s_go mt_X9_differences dX9_differences_101 rfl).trans ?_
  exact q_ret (c := (some (aI x3), h)) mt_X9_differences dX9_differences_102 rfl
theorem e_X9_differences_4 (sc : SC) (p0 : Nat) (x1 : Int32) (x2 : Int32) (v3 : AV) (v4 : AV) (v5 : AV) (v6 : AV) (v7 : AV) (h : AH) : Run sc n_X9_differences 4 [aD p0, aI x1, aI x2, v3, v4, v5, v6, v7] none [] h = Run sc n_X9_differences 12 [aD p0, aI x1, aI x2, aI (nI 0), aI x1, aI (nI 0), v6, v7] none [] h := by
  refine (s_go mt_X9_differences dX9_differences_4 rfl).trans ?_
  refine (s_go mt_X9_differences dX9_differences_5 rfl).trans ?_
  refine (s_go mt_X9_differences dX9_differences_6 rfl).trans ?_
  refine (s_go mt_X9_differences dX9_differences_7 rfl).trans ?_
  refine (s_go mt_X9_differences dX9_differences_9 rfl).trans ?_
  refine (s_go mt_X9_differences dX9_differences_10 rfl).trans ?_
  exact rfl
theorem e_X9_differences_24 (sc : SC) (p0 : Nat) (x1 : Int32) (x2 : Int32) (x3 : Int32) (x4 : Int32) (x5 : Int32) (v6 : AV) (v7 : AV) (y0 : Int32) (h : AH) : Run sc n_X9_differences 24 [aD p0, aI x1, aI x2, aI x3, aI x4, aI x5, v6, v7] none [aI y0] h = bF (getF sc h (aD p0) 11 10) (fun z => Run sc n_X9_differences 30 [aD p0, aI x1, aI x2, aI x3, aI y0, aI x5, v6, v7] none [z] h) := by
  refine (s_go mt_X9_differences dX9_differences_24 rfl).trans ?_
  refine (s_go mt_X9_differences dX9_differences_26 rfl).trans ?_
  exact q_getfield mt_X9_differences dX9_differences_27 rfl
theorem e_X9_differences_82 (sc : SC) (p0 : Nat) (x1 : Int32) (x2 : Int32) (x3 : Int32) (x4 : Int32) (x5 : Int32) (x6 : Int32) (x7 : Int32) (q0 : Nat) (h : AH) : Run sc n_X9_differences 82 [aD p0, aI x1, aI x2, aI x3, aI x4, aI x5, aI x6, aI x7] none [aD q0] h = bF (getF sc h (aD p0) 11 11) (fun z => Run sc n_X9_differences 86 [aD p0, aI x1, aI x2, aI x3, aI x4, aI x5, aI x6, aI x7] none [z, aD q0] h) := by
  refine (s_go mt_X9_differences dX9_differences_82 rfl).trans ?_
  exact q_getfield mt_X9_differences dX9_differences_83 rfl
theorem e_X9_differences_30 (sc : SC) (p0 : Nat) (x1 : Int32) (x2 : Int32) (x3 : Int32) (x4 : Int32) (x5 : Int32) (v6 : AV) (v7 : AV) (q0 : Nat) (h : AH) : Run sc n_X9_differences 30 [aD p0, aI x1, aI x2, aI x3, aI x4, aI x5, v6, v7] none [aD q0] h = bF (getF sc h (aD p0) 11 2) (fun z => Run sc n_X9_differences 34 [aD p0, aI x1, aI x2, aI x3, aI x4, aI x5, v6, v7] none [z, aD q0] h) := by
  refine (s_go mt_X9_differences dX9_differences_30 rfl).trans ?_
  exact q_getfield mt_X9_differences dX9_differences_31 rfl
theorem e_X9_differences_86 (sc : SC) (p0 : Nat) (x1 : Int32) (x2 : Int32) (x3 : Int32) (x4 : Int32) (x5 : Int32) (x6 : Int32) (x7 : Int32) (q0 : Nat) (q1 : Nat) (h : AH) : Run sc n_X9_differences 86 [aD p0, aI x1, aI x2, aI x3, aI x4, aI x5, aI x6, aI x7] none [aD q1, aD q0] h = bI (rOK sc h (aD q0) 7 = true) (bC (Call sc n_X5_hasEffectsOf [aD q0, aD q1] h) (fun v z => Run sc n_X9_differences 89 [aD p0, aI x1, aI x2, aI x3, aI x4, aI x5, aI x6, aI x7] none (v.toList ++ []) z) (fun E z => some (.inr E, z))) := by
  exact q_cV mt_X9_differences dX9_differences_86 rfl mt_X5_hasEffectsOf rfl rfl rfl
theorem e_X9_differences_34 (sc : SC) (p0 : Nat) (x1 : Int32) (x2 : Int32) (x3 : Int32) (x4 : Int32) (x5 : Int32) (v6 : AV) (v7 : AV) (q0 : Nat) (q1 : Nat) (h : AH) : Run sc n_X9_differences 34 [aD p0, aI x1, aI x2, aI x3, aI x4, aI x5, v6, v7] none [aD q1, aD q0] h = bF (getF sc h (aD p0) 11 8) (fun z => Run sc n_X9_differences 39 [aD p0, aI x1, aI x2, aI x3, aI x4, aI x5, v6, v7] none [z, aI (nI 0), aD q1, aD q0] h) := by
  refine (s_go mt_X9_differences dX9_differences_34 rfl).trans ?_
  refine (s_go mt_X9_differences dX9_differences_35 rfl).trans ?_
  exact q_getfield mt_X9_differences dX9_differences_36 rfl
theorem e_X9_differences_89 (sc : SC) (p0 : Nat) (x1 : Int32) (x2 : Int32) (x3 : Int32) (x4 : Int32) (x5 : Int32) (x6 : Int32) (x7 : Int32) (y0 : Int32) (h : AH) : Run sc n_X9_differences 89 [aD p0, aI x1, aI x2, aI x3, aI x4, aI x5, aI x6, aI x7] none [aI y0] h = Run sc n_X9_differences (if ¬ y0 = 0 then 95 else 92) [aD p0, aI x1, aI x2, aI x3, aI x4, aI x5, aI x6, aI x7] none [] h := by
  exact q_if mt_X9_differences dX9_differences_89 (fun _ _ _ _ => rfl) rfl
theorem e_X9_differences_39 (sc : SC) (p0 : Nat) (x1 : Int32) (x2 : Int32) (x3 : Int32) (x4 : Int32) (x5 : Int32) (v6 : AV) (v7 : AV) (q0 : Nat) (q1 : Nat) (y2 : Int32) (q3 : Nat) (h : AH) : Run sc n_X9_differences 39 [aD p0, aI x1, aI x2, aI x3, aI x4, aI x5, v6, v7] none [aD q3, aI y2, aD q1, aD q0] h = bI (rOK sc h (aD q0) 7 = true) (bC (Call sc n_X5_executes [aD q0, aD q1, aI y2, aD q3, aI (nI 300)] h) (fun v z => Run sc n_X9_differences 45 [aD p0, aI x1, aI x2, aI x3, aI x4, aI x5, v6, v7] none (v.toList ++ []) z) (fun E z => some (.inr E, z))) := by
  refine (s_go mt_X9_differences dX9_differences_39 rfl).trans ?_
  exact q_cV mt_X9_differences dX9_differences_42 rfl mt_X5_executes rfl rfl rfl
theorem e_X9_differences_45 (sc : SC) (p0 : Nat) (x1 : Int32) (x2 : Int32) (x3 : Int32) (x4 : Int32) (x5 : Int32) (v6 : AV) (v7 : AV) (y0 : Int32) (h : AH) : Run sc n_X9_differences 45 [aD p0, aI x1, aI x2, aI x3, aI x4, aI x5, v6, v7] none [aI y0] h = bF (getF sc h (aD p0) 11 11) (fun z => Run sc n_X9_differences 51 [aD p0, aI x1, aI x2, aI x3, aI x4, aI x5, aI y0, v7] none [z] h) := by
  refine (s_go mt_X9_differences dX9_differences_45 rfl).trans ?_
  refine (s_go mt_X9_differences dX9_differences_47 rfl).trans ?_
  exact q_getfield mt_X9_differences dX9_differences_48 rfl
theorem e_X9_differences_51 (sc : SC) (p0 : Nat) (x1 : Int32) (x2 : Int32) (x3 : Int32) (x4 : Int32) (x5 : Int32) (x6 : Int32) (v7 : AV) (q0 : Nat) (h : AH) : Run sc n_X9_differences 51 [aD p0, aI x1, aI x2, aI x3, aI x4, aI x5, aI x6, v7] none [aD q0] h = bF (getF sc h (aD p0) 11 3) (fun z => Run sc n_X9_differences 55 [aD p0, aI x1, aI x2, aI x3, aI x4, aI x5, aI x6, v7] none [z, aD q0] h) := by
  refine (s_go mt_X9_differences dX9_differences_51 rfl).trans ?_
  exact q_getfield mt_X9_differences dX9_differences_52 rfl
theorem e_X9_differences_55 (sc : SC) (p0 : Nat) (x1 : Int32) (x2 : Int32) (x3 : Int32) (x4 : Int32) (x5 : Int32) (x6 : Int32) (v7 : AV) (q0 : Nat) (q1 : Nat) (h : AH) : Run sc n_X9_differences 55 [aD p0, aI x1, aI x2, aI x3, aI x4, aI x5, aI x6, v7] none [aD q1, aD q0] h = bF (getF sc h (aD p0) 11 8) (fun z => Run sc n_X9_differences 60 [aD p0, aI x1, aI x2, aI x3, aI x4, aI x5, aI x6, v7] none [z, aI (nI 1), aD q1, aD q0] h) := by
  refine (s_go mt_X9_differences dX9_differences_55 rfl).trans ?_
  refine (s_go mt_X9_differences dX9_differences_56 rfl).trans ?_
  exact q_getfield mt_X9_differences dX9_differences_57 rfl
theorem e_X9_differences_60 (sc : SC) (p0 : Nat) (x1 : Int32) (x2 : Int32) (x3 : Int32) (x4 : Int32) (x5 : Int32) (x6 : Int32) (v7 : AV) (q0 : Nat) (q1 : Nat) (y2 : Int32) (q3 : Nat) (h : AH) : Run sc n_X9_differences 60 [aD p0, aI x1, aI x2, aI x3, aI x4, aI x5, aI x6, v7] none [aD q3, aI y2, aD q1, aD q0] h = bI (rOK sc h (aD q0) 7 = true) (bC (Call sc n_X5_executes [aD q0, aD q1, aI y2, aD q3, aI (nI 300)] h) (fun v z => Run sc n_X9_differences 66 [aD p0, aI x1, aI x2, aI x3, aI x4, aI x5, aI x6, v7] none (v.toList ++ []) z) (fun E z => some (.inr E, z))) := by
  refine (s_go mt_X9_differences dX9_differences_60 rfl).trans ?_
  exact q_cV mt_X9_differences dX9_differences_63 rfl mt_X5_executes rfl rfl rfl
theorem e_X9_differences_66 (sc : SC) (p0 : Nat) (x1 : Int32) (x2 : Int32) (x3 : Int32) (x4 : Int32) (x5 : Int32) (x6 : Int32) (v7 : AV) (y0 : Int32) (h : AH) : Run sc n_X9_differences 66 [aD p0, aI x1, aI x2, aI x3, aI x4, aI x5, aI x6, v7] none [aI y0] h = Run sc n_X9_differences (if x6 = 0 then 95 else 73) [aD p0, aI x1, aI x2, aI x3, aI x4, aI x5, aI x6, aI y0] none [] h := by
  refine (s_go mt_X9_differences dX9_differences_66 rfl).trans ?_
  refine (s_go mt_X9_differences dX9_differences_68 rfl).trans ?_
  exact q_if mt_X9_differences dX9_differences_70 (fun _ _ _ _ => rfl) rfl
/-! BranchSlotFiller.meanSteps(II)D -/
theorem e_X9_meanSteps_0 (sc : SC) (p0 : Nat) (x1 : Int32) (x2 : Int32) (v3 : AV) (v4 : AV) (v5 : AV) (h : AH) : Run sc n_X9_meanSteps 0 [aD p0, aI x1, aI x2, v3, v4, v5] none [] h = bC (Call sc n_X9_checkDrawn [aI x2] h) (fun v z => Run sc n_X9_meanSteps 4 [aD p0, aI x1, aI x2, v3, v4, v5] none (v.toList ++ []) z) (fun E z => some (.inr E, z)) := by
  refine (s_go mt_X9_meanSteps dX9_meanSteps_0 rfl).trans ?_
  exact q_cS mt_X9_meanSteps dX9_meanSteps_1 rfl mt_X9_checkDrawn rfl rfl
theorem e_X9_meanSteps_12 (sc : SC) (p0 : Nat) (x1 : Int32) (x2 : Int32) (x3 : Int32) (x4 : Int32) (x5 : Int32) (h : AH) : Run sc n_X9_meanSteps 12 [aD p0, aI x1, aI x2, aI x3, aI x4, aI x5] none [] h = Run sc n_X9_meanSteps (if x2 ≤ x5 then 62 else 18) [aD p0, aI x1, aI x2, aI x3, aI x4, aI x5] none [] h := by
  refine (s_go mt_X9_meanSteps dX9_meanSteps_12 rfl).trans ?_
  refine (s_go mt_X9_meanSteps dX9_meanSteps_14 rfl).trans ?_
  exact q_icmp mt_X9_meanSteps dX9_meanSteps_15 (fun _ _ _ _ => rfl) rfl
theorem e_X9_meanSteps_18 (sc : SC) (p0 : Nat) (x1 : Int32) (x2 : Int32) (x3 : Int32) (x4 : Int32) (x5 : Int32) (h : AH) : Run sc n_X9_meanSteps 18 [aD p0, aI x1, aI x2, aI x3, aI x4, aI x5] none [] h = bI (rOK sc h (aD p0) 11 = true) (bC (Call sc n_X9_drawInitial [aD p0, aI x4] h) (fun v z => Run sc n_X9_meanSteps 24 [aD p0, aI x1, aI x2, aI x3, aI x4, aI x5] none (v.toList ++ []) z) (fun E z => some (.inr E, z))) := by
  refine (s_go mt_X9_meanSteps dX9_meanSteps_18 rfl).trans ?_
  refine (s_go mt_X9_meanSteps dX9_meanSteps_19 rfl).trans ?_
  exact q_cV mt_X9_meanSteps dX9_meanSteps_21 rfl mt_X9_drawInitial rfl rfl rfl
theorem e_X9_meanSteps_62 (sc : SC) (p0 : Nat) (x1 : Int32) (x2 : Int32) (x3 : Int32) (x4 : Int32) (x5 : Int32) (h : AH) : Run sc n_X9_meanSteps 62 [aD p0, aI x1, aI x2, aI x3, aI x4, aI x5] none [] h = bI (FP.ddiv (FP.i2d (x3)) (FP.i2d (x2)) &&& 0x7fffffffffffffff ≤ 0x7ff0000000000000) (Run sc n_X9_meanSteps 67 [aD p0, aI x1, aI x2, aI x3, aI x4, aI x5] none [aE (FP.ddiv (FP.i2d (x3)) (FP.i2d (x2)))] h) := by
  refine (s_go mt_X9_meanSteps dX9_meanSteps_62 rfl).trans ?_
  refine (s_go mt_X9_meanSteps dX9_meanSteps_63 rfl).trans ?_
  refine (s_go mt_X9_meanSteps dX9_meanSteps_64 rfl).trans ?_
  refine (s_go mt_X9_meanSteps dX9_meanSteps_65 rfl).trans ?_
  exact q_ddiv mt_X9_meanSteps dX9_meanSteps_66
theorem e_X9_meanSteps_4 (sc : SC) (p0 : Nat) (x1 : Int32) (x2 : Int32) (v3 : AV) (v4 : AV) (v5 : AV) (h : AH) : Run sc n_X9_meanSteps 4 [aD p0, aI x1, aI x2, v3, v4, v5] none [] h = Run sc n_X9_meanSteps 12 [aD p0, aI x1, aI x2, aI (nI 0), aI x1, aI (nI 0)] none [] h := by
  refine (s_go mt_X9_meanSteps dX9_meanSteps_4 rfl).trans ?_
  refine (s_go mt_X9_meanSteps dX9_meanSteps_5 rfl).trans ?_
  refine (s_go mt_X9_meanSteps dX9_meanSteps_6 rfl).trans ?_
  refine (s_go mt_X9_meanSteps dX9_meanSteps_7 rfl).trans ?_
  refine (s_go mt_X9_meanSteps dX9_meanSteps_9 rfl).trans ?_
  refine (s_go mt_X9_meanSteps dX9_meanSteps_10 rfl).trans ?_
  exact rfl
theorem e_X9_meanSteps_24 (sc : SC) (p0 : Nat) (x1 : Int32) (x2 : Int32) (x3 : Int32) (x4 : Int32) (x5 : Int32) (y0 : Int32) (h : AH) : Run sc n_X9_meanSteps 24 [aD p0, aI x1, aI x2, aI x3, aI x4, aI x5] none [aI y0] h = bF (getF sc h (aD p0) 11 11) (fun z => Run sc n_X9_meanSteps 30 [aD p0, aI x1, aI x2, aI x3, aI y0, aI x5] none [z] h) := by
  refine (s_go mt_X9_meanSteps dX9_meanSteps_24 rfl).trans ?_
  refine (s_go mt_X9_meanSteps dX9_meanSteps_26 rfl).trans ?_
  exact q_getfield mt_X9_meanSteps dX9_meanSteps_27 rfl
theorem e_X9_meanSteps_67 (sc : SC) (p0 : Nat) (x1 : Int32) (x2 : Int32) (x3 : Int32) (x4 : Int32) (x5 : Int32) (e0 : UInt64) (h : AH) : Run sc n_X9_meanSteps 67 [aD p0, aI x1, aI x2, aI x3, aI x4, aI x5] none [aE e0] h = some (.inl (some (aE e0)), h) := by
  exact q_ret (c := (some (aE e0), h)) mt_X9_meanSteps dX9_meanSteps_67 rfl
theorem e_X9_meanSteps_30 (sc : SC) (p0 : Nat) (x1 : Int32) (x2 : Int32) (x3 : Int32) (x4 : Int32) (x5 : Int32) (q0 : Nat) (h : AH) : Run sc n_X9_meanSteps 30 [aD p0, aI x1, aI x2, aI x3, aI x4, aI x5] none [aD q0] h = bF (getF sc h (aD p0) 11 3) (fun z => Run sc n_X9_meanSteps 34 [aD p0, aI x1, aI x2, aI x3, aI x4, aI x5] none [z, aD q0] h) := by
  refine (s_go mt_X9_meanSteps dX9_meanSteps_30 rfl).trans ?_
  exact q_getfield mt_X9_meanSteps dX9_meanSteps_31 rfl
theorem e_X9_meanSteps_34 (sc : SC) (p0 : Nat) (x1 : Int32) (x2 : Int32) (x3 : Int32) (x4 : Int32) (x5 : Int32) (q0 : Nat) (q1 : Nat) (h : AH) : Run sc n_X9_meanSteps 34 [aD p0, aI x1, aI x2, aI x3, aI x4, aI x5] none [aD q1, aD q0] h = bF (getF sc h (aD p0) 11 8) (fun z => Run sc n_X9_meanSteps 39 [aD p0, aI x1, aI x2, aI x3, aI x4, aI x5] none [z, aI (nI 1), aD q1, aD q0] h) := by
  refine (s_go mt_X9_meanSteps dX9_meanSteps_34 rfl).trans ?_
  refine (s_go mt_X9_meanSteps dX9_meanSteps_35 rfl).trans ?_
  exact q_getfield mt_X9_meanSteps dX9_meanSteps_36 rfl
theorem e_X9_meanSteps_39 (sc : SC) (p0 : Nat) (x1 : Int32) (x2 : Int32) (x3 : Int32) (x4 : Int32) (x5 : Int32) (q0 : Nat) (q1 : Nat) (y2 : Int32) (q3 : Nat) (h : AH) : Run sc n_X9_meanSteps 39 [aD p0, aI x1, aI x2, aI x3, aI x4, aI x5] none [aD q3, aI y2, aD q1, aD q0] h = bI (rOK sc h (aD q0) 7 = true) (bC (Call sc n_X5_executes [aD q0, aD q1, aI y2, aD q3, aI (nI 300)] h) (fun v z => Run sc n_X9_meanSteps 45 [aD p0, aI x1, aI x2, aI x3, aI x4, aI x5] none (v.toList ++ []) z) (fun E z => some (.inr E, z))) := by
  refine (s_go mt_X9_meanSteps dX9_meanSteps_39 rfl).trans ?_
  exact q_cV mt_X9_meanSteps dX9_meanSteps_42 rfl mt_X5_executes rfl rfl rfl
theorem e_X9_meanSteps_45 (sc : SC) (p0 : Nat) (x1 : Int32) (x2 : Int32) (x3 : Int32) (x4 : Int32) (x5 : Int32) (y0 : Int32) (h : AH) : Run sc n_X9_meanSteps 45 [aD p0, aI x1, aI x2, aI x3, aI x4, aI x5] none [aI y0] h = bF (getF sc h (aD p0) 11 11) (fun z => Run sc n_X9_meanSteps 51 [aD p0, aI x1, aI x2, aI x3, aI x4, aI x5] none [z, aI x3] h) := by
  refine (s_go mt_X9_meanSteps dX9_meanSteps_45 rfl).trans ?_
  refine (s_go mt_X9_meanSteps dX9_meanSteps_46 rfl).trans ?_
  refine (s_go mt_X9_meanSteps dX9_meanSteps_47 rfl).trans ?_
  exact q_getfield mt_X9_meanSteps dX9_meanSteps_48 rfl
theorem e_X9_meanSteps_51 (sc : SC) (p0 : Nat) (x1 : Int32) (x2 : Int32) (x3 : Int32) (x4 : Int32) (x5 : Int32) (y0 : Int32) (q1 : Nat) (h : AH) : Run sc n_X9_meanSteps 51 [aD p0, aI x1, aI x2, aI x3, aI x4, aI x5] none [aD q1, aI y0] h = bF (getF sc h (aD q1) 7 3) (fun z => Run sc n_X9_meanSteps 54 [aD p0, aI x1, aI x2, aI x3, aI x4, aI x5] none [z, aI y0] h) := by
  exact q_getfield mt_X9_meanSteps dX9_meanSteps_51 rfl
theorem e_X9_meanSteps_54 (sc : SC) (p0 : Nat) (x1 : Int32) (x2 : Int32) (x3 : Int32) (x4 : Int32) (x5 : Int32) (y0 : Int32) (y1 : Int32) (h : AH) : Run sc n_X9_meanSteps 54 [aD p0, aI x1, aI x2, aI x3, aI x4, aI x5] none [aI y1, aI y0] h = Run sc n_X9_meanSteps 12 [aD p0, aI x1, aI x2, aI (y0 + y1), aI x4, aI (x5 + nI 1)] none [] h := by
  refine (s_go mt_X9_meanSteps dX9_meanSteps_54 rfl).trans ?_
  refine (s_go mt_X9_meanSteps dX9_meanSteps_55 rfl).trans ?_
  refine (s_go mt_X9_meanSteps dX9_meanSteps_56 rfl).trans ?_
  refine (s_go mt_X9_meanSteps dX9_meanSteps_59 rfl).trans ?_
  exact rfl
/-! BranchSlotFiller.filledShare()F -/
theorem e_X9_filledShare_0 (sc : SC) (p0 : Nat) (v1 : AV) (h : AH) : Run sc n_X9_filledShare 0 [aD p0, v1] none [] h = bF (getF sc h (aD p0) 11 3) (fun z => Run sc n_X9_filledShare 4 [aD p0, v1] none [z] h) := by
  refine (s_go mt_X9_filledShare dX9_filledShare_0 rfl).trans ?_
  exact q_getfield mt_X9_filledShare dX9_filledShare_1 rfl
theorem e_X9_filledShare_12 (sc : SC) (p0 : Nat) (x1 : Int32) (h : AH) : Run sc n_X9_filledShare 12 [aD p0, aI x1] none [] h = some (.inr 3, (h.1, h.2 + 1)) := by
  exact q_new mt_X9_filledShare dX9_filledShare_12 rfl (throwA_W rfl (Nat.le_of_ble_eq_true rfl) dX9_filledShare_15 dX9_filledShare_16 dX9_filledShare_19 dX9_filledShare_22 rfl rfl)
theorem e_X9_filledShare_23 (sc : SC) (p0 : Nat) (x1 : Int32) (h : AH) : Run sc n_X9_filledShare 23 [aD p0, aI x1] none [] h = bF (getF sc h (aD p0) 11 3) (fun z => Run sc n_X9_filledShare 28 [aD p0, aI x1] none [z, aI x1] h) := by
  refine (s_go mt_X9_filledShare dX9_filledShare_23 rfl).trans ?_
  refine (s_go mt_X9_filledShare dX9_filledShare_24 rfl).trans ?_
  exact q_getfield mt_X9_filledShare dX9_filledShare_25 rfl
theorem e_X9_filledShare_4 (sc : SC) (p0 : Nat) (v1 : AV) (q0 : Nat) (h : AH) : Run sc n_X9_filledShare 4 [aD p0, v1] none [aD q0] h = bI (rOK sc h (aD q0) 8 = true) (bC (Call sc n_X6_branches [aD q0] h) (fun v z => Run sc n_X9_filledShare 7 [aD p0, v1] none (v.toList ++ []) z) (fun E z => some (.inr E, z))) := by
  exact q_cV mt_X9_filledShare dX9_filledShare_4 rfl mt_X6_branches rfl rfl rfl
theorem e_X9_filledShare_28 (sc : SC) (p0 : Nat) (x1 : Int32) (y0 : Int32) (q1 : Nat) (h : AH) : Run sc n_X9_filledShare 28 [aD p0, aI x1] none [aD q1, aI y0] h = bI (rOK sc h (aD q1) 8 = true) (bC (Call sc n_X6_emptySlots [aD q1] h) (fun v z => Run sc n_X9_filledShare 31 [aD p0, aI x1] none (v.toList ++ [aI y0]) z) (fun E z => some (.inr E, z))) := by
  exact q_cV mt_X9_filledShare dX9_filledShare_28 rfl mt_X6_emptySlots rfl rfl rfl
theorem e_X9_filledShare_7 (sc : SC) (p0 : Nat) (v1 : AV) (y0 : Int32) (h : AH) : Run sc n_X9_filledShare 7 [aD p0, v1] none [aI y0] h = Run sc n_X9_filledShare (if ¬ y0 = 0 then 23 else 12) [aD p0, aI y0] none [] h := by
  refine (s_go mt_X9_filledShare dX9_filledShare_7 rfl).trans ?_
  refine (s_go mt_X9_filledShare dX9_filledShare_8 rfl).trans ?_
  exact q_if mt_X9_filledShare dX9_filledShare_9 (fun _ _ _ _ => rfl) rfl
theorem e_X9_filledShare_31 (sc : SC) (p0 : Nat) (x1 : Int32) (y0 : Int32) (y1 : Int32) (h : AH) : Run sc n_X9_filledShare 31 [aD p0, aI x1] none [aI y1, aI y0] h = bI (FP.fdiv (FP.i2f (y0 - y1)) (FP.i2f (x1)) &&& 0x7fffffff ≤ 0x7f800000) (Run sc n_X9_filledShare 36 [aD p0, aI x1] none [aF (FP.fdiv (FP.i2f (y0 - y1)) (FP.i2f (x1)))] h) := by
  refine (s_go mt_X9_filledShare dX9_filledShare_31 rfl).trans ?_
  refine (s_go mt_X9_filledShare dX9_filledShare_32 rfl).trans ?_
  refine (s_go mt_X9_filledShare dX9_filledShare_33 rfl).trans ?_
  refine (s_go mt_X9_filledShare dX9_filledShare_34 rfl).trans ?_
  exact q_fdiv mt_X9_filledShare dX9_filledShare_35
theorem e_X9_filledShare_36 (sc : SC) (p0 : Nat) (x1 : Int32) (g0 : UInt32) (h : AH) : Run sc n_X9_filledShare 36 [aD p0, aI x1] none [aF g0] h = some (.inl (some (aF g0)), h) := by
  exact q_ret (c := (some (aF g0), h)) mt_X9_filledShare dX9_filledShare_36 rfl
/-! BranchSlotFiller.save()I -/
theorem e_X9_save_0 (sc : SC) (p0 : Nat) (h : AH) : Run sc n_X9_save 0 [aD p0] none [] h = bF (getF sc h (aD p0) 11 13) (fun z => Run sc n_X9_save 4 [aD p0] none [z] h) := by
  refine (s_go mt_X9_save dX9_save_0 rfl).trans ?_
  exact q_getfield mt_X9_save dX9_save_1 rfl
theorem e_X9_save_4 (sc : SC) (p0 : Nat) (q0 : Nat) (h : AH) : Run sc n_X9_save 4 [aD p0] none [aD q0] h = bF (getF sc h (aD p0) 11 2) (fun z => Run sc n_X9_save 8 [aD p0] none [z, aD q0] h) := by
  refine (s_go mt_X9_save dX9_save_4 rfl).trans ?_
  exact q_getfield mt_X9_save dX9_save_5 rfl
theorem e_X9_save_8 (sc : SC) (p0 : Nat) (q0 : Nat) (q1 : Nat) (h : AH) : Run sc n_X9_save 8 [aD p0] none [aD q1, aD q0] h = bI (rOK sc h (aD q0) 8 = true) (bC (Call sc n_X6_copyFrom [aD q0, aD q1] h) (fun v z => Run sc n_X9_save 11 [aD p0] none (v.toList ++ []) z) (fun E z => some (.inr E, z))) := by
  exact q_cV mt_X9_save dX9_save_8 rfl mt_X6_copyFrom rfl rfl rfl
theorem e_X9_save_11 (sc : SC) (p0 : Nat) (h : AH) : Run sc n_X9_save 11 [aD p0] none [] h = bF (getF sc h (aD p0) 11 14) (fun z => Run sc n_X9_save 15 [aD p0] none [z] h) := by
  refine (s_go mt_X9_save dX9_save_11 rfl).trans ?_
  exact q_getfield mt_X9_save dX9_save_12 rfl
theorem e_X9_save_15 (sc : SC) (p0 : Nat) (q0 : Nat) (h : AH) : Run sc n_X9_save 15 [aD p0] none [aD q0] h = bF (getF sc h (aD p0) 11 3) (fun z => Run sc n_X9_save 19 [aD p0] none [z, aD q0] h) := by
  refine (s_go mt_X9_save dX9_save_15 rfl).trans ?_
  exact q_getfield mt_X9_save dX9_save_16 rfl
theorem e_X9_save_19 (sc : SC) (p0 : Nat) (q0 : Nat) (q1 : Nat) (h : AH) : Run sc n_X9_save 19 [aD p0] none [aD q1, aD q0] h = bI (rOK sc h (aD q0) 8 = true) (bC (Call sc n_X6_copyFrom [aD q0, aD q1] h) (fun v z => Run sc n_X9_save 22 [aD p0] none (v.toList ++ []) z) (fun E z => some (.inr E, z))) := by
  exact q_cV mt_X9_save dX9_save_19 rfl mt_X6_copyFrom rfl rfl rfl
theorem e_X9_save_22 (sc : SC) (p0 : Nat) (h : AH) : Run sc n_X9_save 22 [aD p0] none [] h = bF (getF sc h (aD p0) 11 7) (fun z => Run sc n_X9_save 26 [aD p0] none [z] h) := by
  refine (s_go mt_X9_save dX9_save_22 rfl).trans ?_
  exact q_getfield mt_X9_save dX9_save_23 rfl
theorem e_X9_save_26 (sc : SC) (p0 : Nat) (q0 : Nat) (h : AH) : Run sc n_X9_save 26 [aD p0] none [aD q0] h = bF (getF sc h (aD p0) 11 15) (fun z => Run sc n_X9_save 31 [aD p0] none [z, aI (nI 0), aD q0] h) := by
  refine (s_go mt_X9_save dX9_save_26 rfl).trans ?_
  refine (s_go mt_X9_save dX9_save_27 rfl).trans ?_
  exact q_getfield mt_X9_save dX9_save_28 rfl
theorem e_X9_save_31 (sc : SC) (p0 : Nat) (q0 : Nat) (y1 : Int32) (q2 : Nat) (h : AH) : Run sc n_X9_save 31 [aD p0] none [aD q2, aI y1, aD q0] h = bF (getF sc h (aD p0) 11 7) (fun z => Run sc n_X9_save 36 [aD p0] none [z, aI (nI 0), aD q2, aI y1, aD q0] h) := by
  refine (s_go mt_X9_save dX9_save_31 rfl).trans ?_
  refine (s_go mt_X9_save dX9_save_32 rfl).trans ?_
  exact q_getfield mt_X9_save dX9_save_33 rfl
theorem e_X9_save_36 (sc : SC) (p0 : Nat) (q0 : Nat) (y1 : Int32) (q2 : Nat) (y3 : Int32) (q4 : Nat) (h : AH) : Run sc n_X9_save 36 [aD p0] none [aD q4, aI y3, aD q2, aI y1, aD q0] h = bO (lenA sc h (aD q4)) (fun z => Run sc n_X9_save 37 [aD p0] none [aI (nI z), aI y3, aD q2, aI y1, aD q0] h) := by
  exact q_alen mt_X9_save dX9_save_36
theorem e_X9_save_37 (sc : SC) (p0 : Nat) (q0 : Nat) (y1 : Int32) (q2 : Nat) (y3 : Int32) (y4 : Int32) (h : AH) : Run sc n_X9_save 37 [aD p0] none [aI y4, aI y3, aD q2, aI y1, aD q0] h = bO (copyA sc h (aD q0) y1 q2 y3 y4) (fun z => Run sc n_X9_save 40 [aD p0] none [] z) := by
  exact q_copy mt_X9_save dX9_save_37 rfl (Nat.le_of_ble_eq_true rfl)
theorem e_X9_save_40 (sc : SC) (p0 : Nat) (h : AH) : Run sc n_X9_save 40 [aD p0] none [] h = bO (putF h p0 11 16 1 (aI (nI 1))) (fun z => Run sc n_X9_save 45 [aD p0] none [] z) := by
  refine (s_go mt_X9_save dX9_save_40 rfl).trans ?_
  refine (s_go mt_X9_save dX9_save_41 rfl).trans ?_
  exact q_putfield mt_X9_save dX9_save_42 rfl rfl rfl rfl
theorem e_X9_save_45 (sc : SC) (p0 : Nat) (h : AH) : Run sc n_X9_save 45 [aD p0] none [] h = bF (getF sc h (aD p0) 11 2) (fun z => Run sc n_X9_save 49 [aD p0] none [z] h) := by
  refine (s_go mt_X9_save dX9_save_45 rfl).trans ?_
  exact q_getfield mt_X9_save dX9_save_46 rfl
theorem e_X9_save_49 (sc : SC) (p0 : Nat) (q0 : Nat) (h : AH) : Run sc n_X9_save 49 [aD p0] none [aD q0] h = bF (getF sc h (aD q0) 8 1) (fun z => Run sc n_X9_save 52 [aD p0] none [z] h) := by
  exact q_getfield mt_X9_save dX9_save_49 rfl
theorem e_X9_save_52 (sc : SC) (p0 : Nat) (y0 : Int32) (h : AH) : Run sc n_X9_save 52 [aD p0] none [aI y0] h = some (.inl (some (aI y0)), h) := by
  exact q_ret (c := (some (aI y0), h)) mt_X9_save dX9_save_52 rfl
/-! BranchSlotFiller.restore()I -/
theorem e_X9_restore_0 (sc : SC) (p0 : Nat) (h : AH) : Run sc n_X9_restore 0 [aD p0] none [] h = bF (getF sc h (aD p0) 11 16) (fun z => Run sc n_X9_restore 4 [aD p0] none [z] h) := by
  refine (s_go mt_X9_restore dX9_restore_0 rfl).trans ?_
  exact q_getfield mt_X9_restore dX9_restore_1 rfl
theorem e_X9_restore_7 (sc : SC) (p0 : Nat) (h : AH) : Run sc n_X9_restore 7 [aD p0] none [] h = some (.inr 0, (h.1, h.2 + 1)) := by
  exact q_new mt_X9_restore dX9_restore_7 rfl (throwA_W rfl (Nat.le_of_ble_eq_true rfl) dX9_restore_10 dX9_restore_11 dX9_restore_14 dX9_restore_17 rfl rfl)
theorem e_X9_restore_18 (sc : SC) (p0 : Nat) (h : AH) : Run sc n_X9_restore 18 [aD p0] none [] h = bF (getF sc h (aD p0) 11 2) (fun z => Run sc n_X9_restore 22 [aD p0] none [z] h) := by
  refine (s_go mt_X9_restore dX9_restore_18 rfl).trans ?_
  exact q_getfield mt_X9_restore dX9_restore_19 rfl
theorem e_X9_restore_4 (sc : SC) (p0 : Nat) (y0 : Int32) (h : AH) : Run sc n_X9_restore 4 [aD p0] none [aI y0] h = Run sc n_X9_restore (if ¬ y0 = 0 then 18 else 7) [aD p0] none [] h := by
  exact q_if mt_X9_restore dX9_restore_4 (fun _ _ _ _ => rfl) rfl
theorem e_X9_restore_22 (sc : SC) (p0 : Nat) (q0 : Nat) (h : AH) : Run sc n_X9_restore 22 [aD p0] none [aD q0] h = bF (getF sc h (aD p0) 11 13) (fun z => Run sc n_X9_restore 26 [aD p0] none [z, aD q0] h) := by
  refine (s_go mt_X9_restore dX9_restore_22 rfl).trans ?_
  exact q_getfield mt_X9_restore dX9_restore_23 rfl
theorem e_X9_restore_26 (sc : SC) (p0 : Nat) (q0 : Nat) (q1 : Nat) (h : AH) : Run sc n_X9_restore 26 [aD p0] none [aD q1, aD q0] h = bI (rOK sc h (aD q0) 8 = true) (bC (Call sc n_X6_copyFrom [aD q0, aD q1] h) (fun v z => Run sc n_X9_restore 29 [aD p0] none (v.toList ++ []) z) (fun E z => some (.inr E, z))) := by
  exact q_cV mt_X9_restore dX9_restore_26 rfl mt_X6_copyFrom rfl rfl rfl
theorem e_X9_restore_29 (sc : SC) (p0 : Nat) (h : AH) : Run sc n_X9_restore 29 [aD p0] none [] h = bF (getF sc h (aD p0) 11 3) (fun z => Run sc n_X9_restore 33 [aD p0] none [z] h) := by
  refine (s_go mt_X9_restore dX9_restore_29 rfl).trans ?_
  exact q_getfield mt_X9_restore dX9_restore_30 rfl
theorem e_X9_restore_33 (sc : SC) (p0 : Nat) (q0 : Nat) (h : AH) : Run sc n_X9_restore 33 [aD p0] none [aD q0] h = bF (getF sc h (aD p0) 11 14) (fun z => Run sc n_X9_restore 37 [aD p0] none [z, aD q0] h) := by
  refine (s_go mt_X9_restore dX9_restore_33 rfl).trans ?_
  exact q_getfield mt_X9_restore dX9_restore_34 rfl
theorem e_X9_restore_37 (sc : SC) (p0 : Nat) (q0 : Nat) (q1 : Nat) (h : AH) : Run sc n_X9_restore 37 [aD p0] none [aD q1, aD q0] h = bI (rOK sc h (aD q0) 8 = true) (bC (Call sc n_X6_copyFrom [aD q0, aD q1] h) (fun v z => Run sc n_X9_restore 40 [aD p0] none (v.toList ++ []) z) (fun E z => some (.inr E, z))) := by
  exact q_cV mt_X9_restore dX9_restore_37 rfl mt_X6_copyFrom rfl rfl rfl
theorem e_X9_restore_40 (sc : SC) (p0 : Nat) (h : AH) : Run sc n_X9_restore 40 [aD p0] none [] h = bF (getF sc h (aD p0) 11 15) (fun z => Run sc n_X9_restore 44 [aD p0] none [z] h) := by
  refine (s_go mt_X9_restore dX9_restore_40 rfl).trans ?_
  exact q_getfield mt_X9_restore dX9_restore_41 rfl
theorem e_X9_restore_44 (sc : SC) (p0 : Nat) (q0 : Nat) (h : AH) : Run sc n_X9_restore 44 [aD p0] none [aD q0] h = bF (getF sc h (aD p0) 11 7) (fun z => Run sc n_X9_restore 49 [aD p0] none [z, aI (nI 0), aD q0] h) := by
  refine (s_go mt_X9_restore dX9_restore_44 rfl).trans ?_
  refine (s_go mt_X9_restore dX9_restore_45 rfl).trans ?_
  exact q_getfield mt_X9_restore dX9_restore_46 rfl
theorem e_X9_restore_49 (sc : SC) (p0 : Nat) (q0 : Nat) (y1 : Int32) (q2 : Nat) (h : AH) : Run sc n_X9_restore 49 [aD p0] none [aD q2, aI y1, aD q0] h = bF (getF sc h (aD p0) 11 7) (fun z => Run sc n_X9_restore 54 [aD p0] none [z, aI (nI 0), aD q2, aI y1, aD q0] h) := by
  refine (s_go mt_X9_restore dX9_restore_49 rfl).trans ?_
  refine (s_go mt_X9_restore dX9_restore_50 rfl).trans ?_
  exact q_getfield mt_X9_restore dX9_restore_51 rfl
theorem e_X9_restore_54 (sc : SC) (p0 : Nat) (q0 : Nat) (y1 : Int32) (q2 : Nat) (y3 : Int32) (q4 : Nat) (h : AH) : Run sc n_X9_restore 54 [aD p0] none [aD q4, aI y3, aD q2, aI y1, aD q0] h = bO (lenA sc h (aD q4)) (fun z => Run sc n_X9_restore 55 [aD p0] none [aI (nI z), aI y3, aD q2, aI y1, aD q0] h) := by
  exact q_alen mt_X9_restore dX9_restore_54
theorem e_X9_restore_55 (sc : SC) (p0 : Nat) (q0 : Nat) (y1 : Int32) (q2 : Nat) (y3 : Int32) (y4 : Int32) (h : AH) : Run sc n_X9_restore 55 [aD p0] none [aI y4, aI y3, aD q2, aI y1, aD q0] h = bO (copyA sc h (aD q0) y1 q2 y3 y4) (fun z => Run sc n_X9_restore 58 [aD p0] none [] z) := by
  exact q_copy mt_X9_restore dX9_restore_55 rfl (Nat.le_of_ble_eq_true rfl)
theorem e_X9_restore_58 (sc : SC) (p0 : Nat) (h : AH) : Run sc n_X9_restore 58 [aD p0] none [] h = bF (getF sc h (aD p0) 11 6) (fun z => Run sc n_X9_restore 62 [aD p0] none [z] h) := by
  refine (s_go mt_X9_restore dX9_restore_58 rfl).trans ?_
  exact q_getfield mt_X9_restore dX9_restore_59 rfl
theorem e_X9_restore_62 (sc : SC) (p0 : Nat) (q0 : Nat) (h : AH) : Run sc n_X9_restore 62 [aD p0] none [aD q0] h = bO (putF h q0 6 2 0 (aI (nI 0))) (fun z => Run sc n_X9_restore 66 [aD p0] none [] z) := by
  refine (s_go mt_X9_restore dX9_restore_62 rfl).trans ?_
  exact q_putfield mt_X9_restore dX9_restore_63 rfl rfl rfl rfl
theorem e_X9_restore_66 (sc : SC) (p0 : Nat) (h : AH) : Run sc n_X9_restore 66 [aD p0] none [] h = bF (getF sc h (aD p0) 11 2) (fun z => Run sc n_X9_restore 70 [aD p0] none [z] h) := by
  refine (s_go mt_X9_restore dX9_restore_66 rfl).trans ?_
  exact q_getfield mt_X9_restore dX9_restore_67 rfl
theorem e_X9_restore_70 (sc : SC) (p0 : Nat) (q0 : Nat) (h : AH) : Run sc n_X9_restore 70 [aD p0] none [aD q0] h = bF (getF sc h (aD q0) 8 1) (fun z => Run sc n_X9_restore 73 [aD p0] none [z] h) := by
  exact q_getfield mt_X9_restore dX9_restore_70 rfl
theorem e_X9_restore_73 (sc : SC) (p0 : Nat) (y0 : Int32) (h : AH) : Run sc n_X9_restore 73 [aD p0] none [aI y0] h = some (.inl (some (aI y0)), h) := by
  exact q_ret (c := (some (aI y0), h)) mt_X9_restore dX9_restore_73 rfl
/-! BranchSlotFiller$Kind.sign(I)C -/
theorem e_X4_sign_0 (sc : SC) (c0 : Nat) (x1 : Int32) (h : AH) : Run sc n_X4_sign 0 [aC c0, aI x1] none [] h = bF (getF sc h (aC c0) 100 1) (fun z => Run sc n_X4_sign 4 [aC c0, aI x1] none [z] h) := by
  refine (s_go mt_X4_sign dX4_sign_0 rfl).trans ?_
  exact q_getfield mt_X4_sign dX4_sign_1 rfl
theorem e_X4_sign_4 (sc : SC) (c0 : Nat) (x1 : Int32) (d0 : Nat) (h : AH) : Run sc n_X4_sign 4 [aC c0, aI x1] none [aC d0] h = bI (rOK sc h (aC d0) 101 = true) (bC (Call sc n_J0_charAt_5068e [aC d0, aI x1] h) (fun v z => Run sc n_X4_sign 8 [aC c0, aI x1] none (v.toList ++ []) z) (fun E z => some (.inr E, z))) := by
  refine (s_go mt_X4_sign dX4_sign_4 rfl).trans ?_
  exact q_cV mt_X4_sign dX4_sign_5 rfl mt_J0_charAt_5068e rfl rfl rfl
theorem e_X4_sign_8 (sc : SC) (c0 : Nat) (x1 : Int32) (y0 : Int32) (h : AH) : Run sc n_X4_sign 8 [aC c0, aI x1] none [aI y0] h = bI (retK (some FieldType.char) y0 = true) (some (.inl (some (aI y0)), h)) := by
  exact q_iret mt_X4_sign dX4_sign_8
/-! BranchSlotFiller$Kind.isMemoryAccess()Z -/
theorem e_X4_isMemoryAccess_0 (sc : SC) (c0 : Nat) (h : AH) : Run sc n_X4_isMemoryAccess 0 [aC c0] none [] h = bI (1 ≤ c0 ∧ c0 < 13 ∧ 1 ≤ 6 ∧ 6 < 13) (Run sc n_X4_isMemoryAccess (if c0 = 6 then 14 else 7) [aC c0] none [] h) := by
  refine (s_go mt_X4_isMemoryAccess dX4_isMemoryAccess_0 rfl).trans ?_
  refine (s_go mt_X4_isMemoryAccess dX4_isMemoryAccess_1 rfl).trans ?_
  exact q_acmpeq mt_X4_isMemoryAccess dX4_isMemoryAccess_4 rfl
theorem e_X4_isMemoryAccess_7 (sc : SC) (c0 : Nat) (h : AH) : Run sc n_X4_isMemoryAccess 7 [aC c0] none [] h = bI (1 ≤ c0 ∧ c0 < 13 ∧ 1 ≤ 7 ∧ 7 < 13) (Run sc n_X4_isMemoryAccess (if ¬ c0 = 7 then 18 else 14) [aC c0] none [] h) := by
  refine (s_go mt_X4_isMemoryAccess dX4_isMemoryAccess_7 rfl).trans ?_
  refine (s_go mt_X4_isMemoryAccess dX4_isMemoryAccess_8 rfl).trans ?_
  exact q_acmpne mt_X4_isMemoryAccess dX4_isMemoryAccess_11 rfl
theorem e_X4_isMemoryAccess_14 (sc : SC) (c0 : Nat) (h : AH) : Run sc n_X4_isMemoryAccess 14 [aC c0] none [] h = Run sc n_X4_isMemoryAccess 19 [aC c0] none [aI (nI 1)] h := by
  refine (s_go mt_X4_isMemoryAccess dX4_isMemoryAccess_14 rfl).trans ?_
  refine (s_go mt_X4_isMemoryAccess dX4_isMemoryAccess_15 rfl).trans ?_
  exact rfl
theorem e_X4_isMemoryAccess_18 (sc : SC) (c0 : Nat) (h : AH) : Run sc n_X4_isMemoryAccess 18 [aC c0] none [] h = Run sc n_X4_isMemoryAccess 19 [aC c0] none [aI (nI 0)] h := by
  refine (s_go mt_X4_isMemoryAccess dX4_isMemoryAccess_18 rfl).trans ?_
  exact rfl
theorem e_X4_isMemoryAccess_19 (sc : SC) (c0 : Nat) (y0 : Int32) (h : AH) : Run sc n_X4_isMemoryAccess 19 [aC c0] none [aI y0] h = bI (retK (some FieldType.boolean) y0 = true) (some (.inl (some (aI y0)), h)) := by
  exact q_iret mt_X4_isMemoryAccess dX4_isMemoryAccess_19
/-! BranchSlotFiller$Kind.canFill()Z -/
theorem e_X4_canFill_0 (sc : SC) (c0 : Nat) (h : AH) : Run sc n_X4_canFill 0 [aC c0] none [] h = bI (1 ≤ c0 ∧ c0 < 13 ∧ 1 ≤ 1 ∧ 1 < 13) (Run sc n_X4_canFill (if c0 = 1 then 25 else 7) [aC c0] none [] h) := by
  refine (s_go mt_X4_canFill dX4_canFill_0 rfl).trans ?_
  refine (s_go mt_X4_canFill dX4_canFill_1 rfl).trans ?_
  exact q_acmpeq mt_X4_canFill dX4_canFill_4 rfl
theorem e_X4_canFill_7 (sc : SC) (c0 : Nat) (h : AH) : Run sc n_X4_canFill 7 [aC c0] none [] h = bI (1 ≤ c0 ∧ c0 < 13 ∧ 1 ≤ 12 ∧ 12 < 13) (Run sc n_X4_canFill (if c0 = 12 then 25 else 14) [aC c0] none [] h) := by
  refine (s_go mt_X4_canFill dX4_canFill_7 rfl).trans ?_
  refine (s_go mt_X4_canFill dX4_canFill_8 rfl).trans ?_
  exact q_acmpeq mt_X4_canFill dX4_canFill_11 rfl
theorem e_X4_canFill_14 (sc : SC) (c0 : Nat) (h : AH) : Run sc n_X4_canFill 14 [aC c0] none [] h = bF (getF sc h (aC c0) 100 6) (fun z => Run sc n_X4_canFill 18 [aC c0] none [z] h) := by
  refine (s_go mt_X4_canFill dX4_canFill_14 rfl).trans ?_
  exact q_getfield mt_X4_canFill dX4_canFill_15 rfl
theorem e_X4_canFill_21 (sc : SC) (c0 : Nat) (h : AH) : Run sc n_X4_canFill 21 [aC c0] none [] h = Run sc n_X4_canFill 26 [aC c0] none [aI (nI 1)] h := by
  refine (s_go mt_X4_canFill dX4_canFill_21 rfl).trans ?_
  refine (s_go mt_X4_canFill dX4_canFill_22 rfl).trans ?_
  exact rfl
theorem e_X4_canFill_25 (sc : SC) (c0 : Nat) (h : AH) : Run sc n_X4_canFill 25 [aC c0] none [] h = Run sc n_X4_canFill 26 [aC c0] none [aI (nI 0)] h := by
  refine (s_go mt_X4_canFill dX4_canFill_25 rfl).trans ?_
  exact rfl
theorem e_X4_canFill_26 (sc : SC) (c0 : Nat) (y0 : Int32) (h : AH) : Run sc n_X4_canFill 26 [aC c0] none [aI y0] h = bI (retK (some FieldType.boolean) y0 = true) (some (.inl (some (aI y0)), h)) := by
  exact q_iret mt_X4_canFill dX4_canFill_26
theorem e_X4_canFill_18 (sc : SC) (c0 : Nat) (y0 : Int32) (h : AH) : Run sc n_X4_canFill 18 [aC c0] none [aI y0] h = Run sc n_X4_canFill (if ¬ y0 = 0 then 25 else 21) [aC c0] none [] h := by
  exact q_if mt_X4_canFill dX4_canFill_18 (fun _ _ _ _ => rfl) rfl
