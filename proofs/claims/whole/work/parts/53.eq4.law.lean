/-! BranchSlotFillerLaw.feed(LBranchSlotFiller;C[J)I -/
theorem e_L_feed_0 (sc : SC) (p0 : Nat) (x1 : Int32) (p2 : Nat) (v3 : AV) (h : AH) : Run sc n_L_feed 0 [aD p0, aI x1, aD p2, v3] none [] h = bI (rOK sc h (aD p0) 11 = true) (bC (Call sc n_X9_feed [aD p0, aI x1] h) (fun v z => Run sc n_L_feed 7 [aD p0, aI x1, aD p2, v3] none (v.toList ++ [aI (nI 0), aD p2]) z) (fun E z => xh sc n_L_feed [aD p0, aI x1, aD p2, v3] none z E (hnd mi_L_feed 4 E (mHH mi_L_feed)))) := by
  refine (s_go mt_L_feed dL_feed_0 rfl).trans ?_
  refine (s_go mt_L_feed dL_feed_1 rfl).trans ?_
  refine (s_go mt_L_feed dL_feed_2 rfl).trans ?_
  refine (s_go mt_L_feed dL_feed_3 rfl).trans ?_
  exact q_cH mt_L_feed dL_feed_4 rfl mt_X9_feed rfl rfl
theorem e_L_feed_13 (sc : SC) (p0 : Nat) (x1 : Int32) (p2 : Nat) (v3 : AV) (h : AH) : Run sc n_L_feed 13 [aD p0, aI x1, aD p2, v3] none [] h = some (.inl (some (aI (nI 1))), h) := by
  refine (s_go mt_L_feed dL_feed_13 rfl).trans ?_
  exact q_ret (c := (some (aI (nI 1)), h)) mt_L_feed dL_feed_14 rfl
theorem e_L_feed_7 (sc : SC) (p0 : Nat) (x1 : Int32) (p2 : Nat) (v3 : AV) (q0 : Nat) (y1 : Int32) (y2 : Int32) (h : AH) : Run sc n_L_feed 7 [aD p0, aI x1, aD p2, v3] none [aI y2, aI y1, aD q0] h = bO (stL h q0 y1 ((y2).toInt64)) (fun z => Run sc n_L_feed 9 [aD p0, aI x1, aD p2, v3] none [] z) := by
  refine (s_go mt_L_feed dL_feed_7 rfl).trans ?_
  exact q_lastore mt_L_feed dL_feed_8
theorem e_L_feed_9 (sc : SC) (p0 : Nat) (x1 : Int32) (p2 : Nat) (v3 : AV) (h : AH) : Run sc n_L_feed 9 [aD p0, aI x1, aD p2, v3] none [] h = some (.inl (some (aI (nI 0))), h) := by
  refine (s_go mt_L_feed dL_feed_9 rfl).trans ?_
  refine (s_go mt_L_feed dL_feed_15 rfl).trans ?_
  exact q_ret (c := (some (aI (nI 0)), h)) mt_L_feed dL_feed_16 rfl
/-! BranchSlotFillerLaw.parse(LBranchSlotFiller;[J)I -/
theorem e_L_parse_0 (sc : SC) (p0 : Nat) (p1 : Nat) (v2 : AV) (h : AH) : Run sc n_L_parse 0 [aD p0, aD p1, v2] none [] h = bI (rOK sc h (aD p0) 11 = true) (bC (Call sc n_X9_parse [aD p0] h) (fun v z => Run sc n_L_parse 6 [aD p0, aD p1, v2] none (v.toList ++ [aI (nI 0), aD p1]) z) (fun E z => xh sc n_L_parse [aD p0, aD p1, v2] none z E (hnd mi_L_parse 3 E (mHH mi_L_parse)))) := by
  refine (s_go mt_L_parse dL_parse_0 rfl).trans ?_
  refine (s_go mt_L_parse dL_parse_1 rfl).trans ?_
  refine (s_go mt_L_parse dL_parse_2 rfl).trans ?_
  exact q_cH mt_L_parse dL_parse_3 rfl mt_X9_parse rfl rfl
theorem e_L_parse_12 (sc : SC) (p0 : Nat) (p1 : Nat) (v2 : AV) (h : AH) : Run sc n_L_parse 12 [aD p0, aD p1, v2] none [] h = some (.inl (some (aI (nI 1))), h) := by
  refine (s_go mt_L_parse dL_parse_12 rfl).trans ?_
  exact q_ret (c := (some (aI (nI 1)), h)) mt_L_parse dL_parse_13 rfl
theorem e_L_parse_15 (sc : SC) (p0 : Nat) (p1 : Nat) (v2 : AV) (h : AH) : Run sc n_L_parse 15 [aD p0, aD p1, v2] none [] h = some (.inl (some (aI (nI 2))), h) := by
  refine (s_go mt_L_parse dL_parse_15 rfl).trans ?_
  exact q_ret (c := (some (aI (nI 2)), h)) mt_L_parse dL_parse_16 rfl
theorem e_L_parse_6 (sc : SC) (p0 : Nat) (p1 : Nat) (v2 : AV) (q0 : Nat) (y1 : Int32) (y2 : Int32) (h : AH) : Run sc n_L_parse 6 [aD p0, aD p1, v2] none [aI y2, aI y1, aD q0] h = bO (stL h q0 y1 ((y2).toInt64)) (fun z => Run sc n_L_parse 8 [aD p0, aD p1, v2] none [] z) := by
  refine (s_go mt_L_parse dL_parse_6 rfl).trans ?_
  exact q_lastore mt_L_parse dL_parse_7
theorem e_L_parse_8 (sc : SC) (p0 : Nat) (p1 : Nat) (v2 : AV) (h : AH) : Run sc n_L_parse 8 [aD p0, aD p1, v2] none [] h = some (.inl (some (aI (nI 0))), h) := by
  refine (s_go mt_L_parse dL_parse_8 rfl).trans ?_
  refine (s_go mt_L_parse dL_parse_17 rfl).trans ?_
  exact q_ret (c := (some (aI (nI 0)), h)) mt_L_parse dL_parse_18 rfl
/-! BranchSlotFillerLaw.instruction(LBranchSlotFiller;II[J)I -/
theorem e_L_instruction_0 (sc : SC) (p0 : Nat) (x1 : Int32) (x2 : Int32) (p3 : Nat) (v4 : AV) (h : AH) : Run sc n_L_instruction 0 [aD p0, aI x1, aI x2, aD p3, v4] none [] h = bI (rOK sc h (aD p0) 11 = true) (bC (Call sc n_X9_instruction [aD p0, aI x1, aI x2] h) (fun v z => Run sc n_L_instruction 8 [aD p0, aI x1, aI x2, aD p3, v4] none (v.toList ++ [aI (nI 0), aD p3]) z) (fun E z => xh sc n_L_instruction [aD p0, aI x1, aI x2, aD p3, v4] none z E (hnd mi_L_instruction 5 E (mHH mi_L_instruction)))) := by
  refine (s_go mt_L_instruction dL_instruction_0 rfl).trans ?_
  refine (s_go mt_L_instruction dL_instruction_1 rfl).trans ?_
  refine (s_go mt_L_instruction dL_instruction_2 rfl).trans ?_
  refine (s_go mt_L_instruction dL_instruction_3 rfl).trans ?_
  refine (s_go mt_L_instruction dL_instruction_4 rfl).trans ?_
  exact q_cH mt_L_instruction dL_instruction_5 rfl mt_X9_instruction rfl rfl
theorem e_L_instruction_15 (sc : SC) (p0 : Nat) (x1 : Int32) (x2 : Int32) (p3 : Nat) (v4 : AV) (h : AH) : Run sc n_L_instruction 15 [aD p0, aI x1, aI x2, aD p3, v4] none [] h = some (.inl (some (aI (nI 1))), h) := by
  refine (s_go mt_L_instruction dL_instruction_15 rfl).trans ?_
  exact q_ret (c := (some (aI (nI 1)), h)) mt_L_instruction dL_instruction_16 rfl
theorem e_L_instruction_19 (sc : SC) (p0 : Nat) (x1 : Int32) (x2 : Int32) (p3 : Nat) (v4 : AV) (h : AH) : Run sc n_L_instruction 19 [aD p0, aI x1, aI x2, aD p3, v4] none [] h = some (.inl (some (aI (nI 2))), h) := by
  refine (s_go mt_L_instruction dL_instruction_19 rfl).trans ?_
  exact q_ret (c := (some (aI (nI 2)), h)) mt_L_instruction dL_instruction_20 rfl
theorem e_L_instruction_8 (sc : SC) (p0 : Nat) (x1 : Int32) (x2 : Int32) (p3 : Nat) (v4 : AV) (q0 : Nat) (y1 : Int32) (y2 : Int32) (h : AH) : Run sc n_L_instruction 8 [aD p0, aI x1, aI x2, aD p3, v4] none [aI y2, aI y1, aD q0] h = bO (stL h q0 y1 ((y2).toInt64)) (fun z => Run sc n_L_instruction 10 [aD p0, aI x1, aI x2, aD p3, v4] none [] z) := by
  refine (s_go mt_L_instruction dL_instruction_8 rfl).trans ?_
  exact q_lastore mt_L_instruction dL_instruction_9
theorem e_L_instruction_10 (sc : SC) (p0 : Nat) (x1 : Int32) (x2 : Int32) (p3 : Nat) (v4 : AV) (h : AH) : Run sc n_L_instruction 10 [aD p0, aI x1, aI x2, aD p3, v4] none [] h = some (.inl (some (aI (nI 0))), h) := by
  refine (s_go mt_L_instruction dL_instruction_10 rfl).trans ?_
  refine (s_go mt_L_instruction dL_instruction_21 rfl).trans ?_
  exact q_ret (c := (some (aI (nI 0)), h)) mt_L_instruction dL_instruction_22 rfl
/-! BranchSlotFillerLaw.entry(LBranchSlotFiller;II[J)I -/
theorem e_L_entry_0 (sc : SC) (p0 : Nat) (x1 : Int32) (x2 : Int32) (p3 : Nat) (v4 : AV) (h : AH) : Run sc n_L_entry 0 [aD p0, aI x1, aI x2, aD p3, v4] none [] h = bI (rOK sc h (aD p0) 11 = true) (bC (Call sc n_X9_entry [aD p0, aI x1, aI x2] h) (fun v z => Run sc n_L_entry 8 [aD p0, aI x1, aI x2, aD p3, v4] none (v.toList ++ [aI (nI 0), aD p3]) z) (fun E z => xh sc n_L_entry [aD p0, aI x1, aI x2, aD p3, v4] none z E (hnd mi_L_entry 5 E (mHH mi_L_entry)))) := by
  refine (s_go mt_L_entry dL_entry_0 rfl).trans ?_
  refine (s_go mt_L_entry dL_entry_1 rfl).trans ?_
  refine (s_go mt_L_entry dL_entry_2 rfl).trans ?_
  refine (s_go mt_L_entry dL_entry_3 rfl).trans ?_
  refine (s_go mt_L_entry dL_entry_4 rfl).trans ?_
  exact q_cH mt_L_entry dL_entry_5 rfl mt_X9_entry rfl rfl
theorem e_L_entry_15 (sc : SC) (p0 : Nat) (x1 : Int32) (x2 : Int32) (p3 : Nat) (v4 : AV) (h : AH) : Run sc n_L_entry 15 [aD p0, aI x1, aI x2, aD p3, v4] none [] h = some (.inl (some (aI (nI 1))), h) := by
  refine (s_go mt_L_entry dL_entry_15 rfl).trans ?_
  exact q_ret (c := (some (aI (nI 1)), h)) mt_L_entry dL_entry_16 rfl
theorem e_L_entry_19 (sc : SC) (p0 : Nat) (x1 : Int32) (x2 : Int32) (p3 : Nat) (v4 : AV) (h : AH) : Run sc n_L_entry 19 [aD p0, aI x1, aI x2, aD p3, v4] none [] h = some (.inl (some (aI (nI 2))), h) := by
  refine (s_go mt_L_entry dL_entry_19 rfl).trans ?_
  exact q_ret (c := (some (aI (nI 2)), h)) mt_L_entry dL_entry_20 rfl
theorem e_L_entry_8 (sc : SC) (p0 : Nat) (x1 : Int32) (x2 : Int32) (p3 : Nat) (v4 : AV) (q0 : Nat) (y1 : Int32) (y2 : Int32) (h : AH) : Run sc n_L_entry 8 [aD p0, aI x1, aI x2, aD p3, v4] none [aI y2, aI y1, aD q0] h = bO (stL h q0 y1 ((y2).toInt64)) (fun z => Run sc n_L_entry 10 [aD p0, aI x1, aI x2, aD p3, v4] none [] z) := by
  refine (s_go mt_L_entry dL_entry_8 rfl).trans ?_
  exact q_lastore mt_L_entry dL_entry_9
theorem e_L_entry_10 (sc : SC) (p0 : Nat) (x1 : Int32) (x2 : Int32) (p3 : Nat) (v4 : AV) (h : AH) : Run sc n_L_entry 10 [aD p0, aI x1, aI x2, aD p3, v4] none [] h = some (.inl (some (aI (nI 0))), h) := by
  refine (s_go mt_L_entry dL_entry_10 rfl).trans ?_
  refine (s_go mt_L_entry dL_entry_21 rfl).trans ?_
  exact q_ret (c := (some (aI (nI 0)), h)) mt_L_entry dL_entry_22 rfl
/-! BranchSlotFillerLaw.count(LBranchSlotFiller;I[J)I -/
theorem e_L_count_0 (sc : SC) (p0 : Nat) (x1 : Int32) (p2 : Nat) (v3 : AV) (h : AH) : Run sc n_L_count 0 [aD p0, aI x1, aD p2, v3] none [] h = bI (rOK sc h (aD p0) 11 = true) (bC (Call sc n_X9_count [aD p0, aI x1] h) (fun v z => Run sc n_L_count 7 [aD p0, aI x1, aD p2, v3] none (v.toList ++ [aI (nI 0), aD p2]) z) (fun E z => xh sc n_L_count [aD p0, aI x1, aD p2, v3] none z E (hnd mi_L_count 4 E (mHH mi_L_count)))) := by
  refine (s_go mt_L_count dL_count_0 rfl).trans ?_
  refine (s_go mt_L_count dL_count_1 rfl).trans ?_
  refine (s_go mt_L_count dL_count_2 rfl).trans ?_
  refine (s_go mt_L_count dL_count_3 rfl).trans ?_
  exact q_cH mt_L_count dL_count_4 rfl mt_X9_count rfl rfl
theorem e_L_count_13 (sc : SC) (p0 : Nat) (x1 : Int32) (p2 : Nat) (v3 : AV) (h : AH) : Run sc n_L_count 13 [aD p0, aI x1, aD p2, v3] none [] h = some (.inl (some (aI (nI 1))), h) := by
  refine (s_go mt_L_count dL_count_13 rfl).trans ?_
  exact q_ret (c := (some (aI (nI 1)), h)) mt_L_count dL_count_14 rfl
theorem e_L_count_7 (sc : SC) (p0 : Nat) (x1 : Int32) (p2 : Nat) (v3 : AV) (q0 : Nat) (y1 : Int32) (y2 : Int32) (h : AH) : Run sc n_L_count 7 [aD p0, aI x1, aD p2, v3] none [aI y2, aI y1, aD q0] h = bO (stL h q0 y1 ((y2).toInt64)) (fun z => Run sc n_L_count 9 [aD p0, aI x1, aD p2, v3] none [] z) := by
  refine (s_go mt_L_count dL_count_7 rfl).trans ?_
  exact q_lastore mt_L_count dL_count_8
theorem e_L_count_9 (sc : SC) (p0 : Nat) (x1 : Int32) (p2 : Nat) (v3 : AV) (h : AH) : Run sc n_L_count 9 [aD p0, aI x1, aD p2, v3] none [] h = some (.inl (some (aI (nI 0))), h) := by
  refine (s_go mt_L_count dL_count_9 rfl).trans ?_
  refine (s_go mt_L_count dL_count_15 rfl).trans ?_
  exact q_ret (c := (some (aI (nI 0)), h)) mt_L_count dL_count_16 rfl
/-! BranchSlotFillerLaw.live(LBranchSlotFiller;I[J)I -/
theorem e_L_live_0 (sc : SC) (p0 : Nat) (x1 : Int32) (p2 : Nat) (v3 : AV) (h : AH) : Run sc n_L_live 0 [aD p0, aI x1, aD p2, v3] none [] h = bI (rOK sc h (aD p0) 11 = true) (bC (Call sc n_X9_live [aD p0, aI x1] h) (fun v z => Run sc n_L_live 7 [aD p0, aI x1, aD p2, v3] none (v.toList ++ [aI (nI 0), aD p2]) z) (fun E z => xh sc n_L_live [aD p0, aI x1, aD p2, v3] none z E (hnd mi_L_live 4 E (mHH mi_L_live)))) := by
  refine (s_go mt_L_live dL_live_0 rfl).trans ?_
  refine (s_go mt_L_live dL_live_1 rfl).trans ?_
  refine (s_go mt_L_live dL_live_2 rfl).trans ?_
  refine (s_go mt_L_live dL_live_3 rfl).trans ?_
  exact q_cH mt_L_live dL_live_4 rfl mt_X9_live rfl rfl
theorem e_L_live_13 (sc : SC) (p0 : Nat) (x1 : Int32) (p2 : Nat) (v3 : AV) (h : AH) : Run sc n_L_live 13 [aD p0, aI x1, aD p2, v3] none [] h = some (.inl (some (aI (nI 1))), h) := by
  refine (s_go mt_L_live dL_live_13 rfl).trans ?_
  exact q_ret (c := (some (aI (nI 1)), h)) mt_L_live dL_live_14 rfl
theorem e_L_live_16 (sc : SC) (p0 : Nat) (x1 : Int32) (p2 : Nat) (v3 : AV) (h : AH) : Run sc n_L_live 16 [aD p0, aI x1, aD p2, v3] none [] h = some (.inl (some (aI (nI 2))), h) := by
  refine (s_go mt_L_live dL_live_16 rfl).trans ?_
  exact q_ret (c := (some (aI (nI 2)), h)) mt_L_live dL_live_17 rfl
theorem e_L_live_7 (sc : SC) (p0 : Nat) (x1 : Int32) (p2 : Nat) (v3 : AV) (q0 : Nat) (y1 : Int32) (y2 : Int32) (h : AH) : Run sc n_L_live 7 [aD p0, aI x1, aD p2, v3] none [aI y2, aI y1, aD q0] h = bO (stL h q0 y1 ((y2).toInt64)) (fun z => Run sc n_L_live 9 [aD p0, aI x1, aD p2, v3] none [] z) := by
  refine (s_go mt_L_live dL_live_7 rfl).trans ?_
  exact q_lastore mt_L_live dL_live_8
theorem e_L_live_9 (sc : SC) (p0 : Nat) (x1 : Int32) (p2 : Nat) (v3 : AV) (h : AH) : Run sc n_L_live 9 [aD p0, aI x1, aD p2, v3] none [] h = some (.inl (some (aI (nI 0))), h) := by
  refine (s_go mt_L_live dL_live_9 rfl).trans ?_
  refine (s_go mt_L_live dL_live_18 rfl).trans ?_
  exact q_ret (c := (some (aI (nI 0)), h)) mt_L_live dL_live_19 rfl
/-! BranchSlotFillerLaw.isIndependent(LBranchSlotFiller;II[J)I -/
theorem e_L_isIndependent_0 (sc : SC) (p0 : Nat) (x1 : Int32) (x2 : Int32) (p3 : Nat) (v4 : AV) (h : AH) : Run sc n_L_isIndependent 0 [aD p0, aI x1, aI x2, aD p3, v4] none [] h = bI (rOK sc h (aD p0) 11 = true) (bC (Call sc n_X9_isIndependent [aD p0, aI x1, aI x2] h) (fun v z => Run sc n_L_isIndependent 8 [aD p0, aI x1, aI x2, aD p3, v4] none (v.toList ++ [aI (nI 0), aD p3]) z) (fun E z => xh sc n_L_isIndependent [aD p0, aI x1, aI x2, aD p3, v4] none z E (hnd mi_L_isIndependent 5 E (mHH mi_L_isIndependent)))) := by
  refine (s_go mt_L_isIndependent dL_isIndependent_0 rfl).trans ?_
  refine (s_go mt_L_isIndependent dL_isIndependent_1 rfl).trans ?_
  refine (s_go mt_L_isIndependent dL_isIndependent_2 rfl).trans ?_
  refine (s_go mt_L_isIndependent dL_isIndependent_3 rfl).trans ?_
  refine (s_go mt_L_isIndependent dL_isIndependent_4 rfl).trans ?_
  exact q_cH mt_L_isIndependent dL_isIndependent_5 rfl mt_X9_isIndependent rfl rfl
theorem e_L_isIndependent_11 (sc : SC) (p0 : Nat) (x1 : Int32) (x2 : Int32) (p3 : Nat) (v4 : AV) (q0 : Nat) (y1 : Int32) (h : AH) : Run sc n_L_isIndependent 11 [aD p0, aI x1, aI x2, aD p3, v4] none [aI y1, aD q0] h = Run sc n_L_isIndependent 16 [aD p0, aI x1, aI x2, aD p3, v4] none [aL 1, aI y1, aD q0] h := by
  refine (s_go mt_L_isIndependent dL_isIndependent_11 rfl).trans ?_
  refine (s_go mt_L_isIndependent dL_isIndependent_12 rfl).trans ?_
  exact rfl
theorem e_L_isIndependent_15 (sc : SC) (p0 : Nat) (x1 : Int32) (x2 : Int32) (p3 : Nat) (v4 : AV) (q0 : Nat) (y1 : Int32) (h : AH) : Run sc n_L_isIndependent 15 [aD p0, aI x1, aI x2, aD p3, v4] none [aI y1, aD q0] h = Run sc n_L_isIndependent 16 [aD p0, aI x1, aI x2, aD p3, v4] none [aL 0, aI y1, aD q0] h := by
  refine (s_go mt_L_isIndependent dL_isIndependent_15 rfl).trans ?_
  exact rfl
theorem e_L_isIndependent_16 (sc : SC) (p0 : Nat) (x1 : Int32) (x2 : Int32) (p3 : Nat) (v4 : AV) (q0 : Nat) (y1 : Int32) (l2 : Int64) (h : AH) : Run sc n_L_isIndependent 16 [aD p0, aI x1, aI x2, aD p3, v4] none [aL l2, aI y1, aD q0] h = bO (stL h q0 y1 l2) (fun z => Run sc n_L_isIndependent 17 [aD p0, aI x1, aI x2, aD p3, v4] none [] z) := by
  exact q_lastore mt_L_isIndependent dL_isIndependent_16
theorem e_L_isIndependent_22 (sc : SC) (p0 : Nat) (x1 : Int32) (x2 : Int32) (p3 : Nat) (v4 : AV) (h : AH) : Run sc n_L_isIndependent 22 [aD p0, aI x1, aI x2, aD p3, v4] none [] h = some (.inl (some (aI (nI 1))), h) := by
  refine (s_go mt_L_isIndependent dL_isIndependent_22 rfl).trans ?_
  exact q_ret (c := (some (aI (nI 1)), h)) mt_L_isIndependent dL_isIndependent_23 rfl
theorem e_L_isIndependent_8 (sc : SC) (p0 : Nat) (x1 : Int32) (x2 : Int32) (p3 : Nat) (v4 : AV) (q0 : Nat) (y1 : Int32) (y2 : Int32) (h : AH) : Run sc n_L_isIndependent 8 [aD p0, aI x1, aI x2, aD p3, v4] none [aI y2, aI y1, aD q0] h = Run sc n_L_isIndependent (if y2 = 0 then 15 else 11) [aD p0, aI x1, aI x2, aD p3, v4] none [aI y1, aD q0] h := by
  exact q_if mt_L_isIndependent dL_isIndependent_8 (fun _ _ _ _ => rfl) rfl
theorem e_L_isIndependent_17 (sc : SC) (p0 : Nat) (x1 : Int32) (x2 : Int32) (p3 : Nat) (v4 : AV) (h : AH) : Run sc n_L_isIndependent 17 [aD p0, aI x1, aI x2, aD p3, v4] none [] h = some (.inl (some (aI (nI 0))), h) := by
  refine (s_go mt_L_isIndependent dL_isIndependent_17 rfl).trans ?_
  refine (s_go mt_L_isIndependent dL_isIndependent_24 rfl).trans ?_
  exact q_ret (c := (some (aI (nI 0)), h)) mt_L_isIndependent dL_isIndependent_25 rfl
/-! BranchSlotFillerLaw.candidate(LBranchSlotFiller;II[J)I -/
theorem e_L_candidate_0 (sc : SC) (p0 : Nat) (x1 : Int32) (x2 : Int32) (p3 : Nat) (v4 : AV) (h : AH) : Run sc n_L_candidate 0 [aD p0, aI x1, aI x2, aD p3, v4] none [] h = bI (rOK sc h (aD p0) 11 = true) (bC (Call sc n_X9_candidate [aD p0, aI x1, aI x2] h) (fun v z => Run sc n_L_candidate 8 [aD p0, aI x1, aI x2, aD p3, v4] none (v.toList ++ [aI (nI 0), aD p3]) z) (fun E z => xh sc n_L_candidate [aD p0, aI x1, aI x2, aD p3, v4] none z E (hnd mi_L_candidate 5 E (mHH mi_L_candidate)))) := by
  refine (s_go mt_L_candidate dL_candidate_0 rfl).trans ?_
  refine (s_go mt_L_candidate dL_candidate_1 rfl).trans ?_
  refine (s_go mt_L_candidate dL_candidate_2 rfl).trans ?_
  refine (s_go mt_L_candidate dL_candidate_3 rfl).trans ?_
  refine (s_go mt_L_candidate dL_candidate_4 rfl).trans ?_
  exact q_cH mt_L_candidate dL_candidate_5 rfl mt_X9_candidate rfl rfl
theorem e_L_candidate_15 (sc : SC) (p0 : Nat) (x1 : Int32) (x2 : Int32) (p3 : Nat) (v4 : AV) (h : AH) : Run sc n_L_candidate 15 [aD p0, aI x1, aI x2, aD p3, v4] none [] h = some (.inl (some (aI (nI 1))), h) := by
  refine (s_go mt_L_candidate dL_candidate_15 rfl).trans ?_
  exact q_ret (c := (some (aI (nI 1)), h)) mt_L_candidate dL_candidate_16 rfl
theorem e_L_candidate_19 (sc : SC) (p0 : Nat) (x1 : Int32) (x2 : Int32) (p3 : Nat) (v4 : AV) (h : AH) : Run sc n_L_candidate 19 [aD p0, aI x1, aI x2, aD p3, v4] none [] h = some (.inl (some (aI (nI 2))), h) := by
  refine (s_go mt_L_candidate dL_candidate_19 rfl).trans ?_
  exact q_ret (c := (some (aI (nI 2)), h)) mt_L_candidate dL_candidate_20 rfl
theorem e_L_candidate_23 (sc : SC) (p0 : Nat) (x1 : Int32) (x2 : Int32) (p3 : Nat) (v4 : AV) (h : AH) : Run sc n_L_candidate 23 [aD p0, aI x1, aI x2, aD p3, v4] none [] h = some (.inl (some (aI (nI 3))), h) := by
  refine (s_go mt_L_candidate dL_candidate_23 rfl).trans ?_
  exact q_ret (c := (some (aI (nI 3)), h)) mt_L_candidate dL_candidate_24 rfl
theorem e_L_candidate_27 (sc : SC) (p0 : Nat) (x1 : Int32) (x2 : Int32) (p3 : Nat) (v4 : AV) (h : AH) : Run sc n_L_candidate 27 [aD p0, aI x1, aI x2, aD p3, v4] none [] h = some (.inl (some (aI (nI 4))), h) := by
  refine (s_go mt_L_candidate dL_candidate_27 rfl).trans ?_
  exact q_ret (c := (some (aI (nI 4)), h)) mt_L_candidate dL_candidate_28 rfl
theorem e_L_candidate_8 (sc : SC) (p0 : Nat) (x1 : Int32) (x2 : Int32) (p3 : Nat) (v4 : AV) (q0 : Nat) (y1 : Int32) (y2 : Int32) (h : AH) : Run sc n_L_candidate 8 [aD p0, aI x1, aI x2, aD p3, v4] none [aI y2, aI y1, aD q0] h = bO (stL h q0 y1 ((y2).toInt64)) (fun z => Run sc n_L_candidate 10 [aD p0, aI x1, aI x2, aD p3, v4] none [] z) := by
  refine (s_go mt_L_candidate dL_candidate_8 rfl).trans ?_
  exact q_lastore mt_L_candidate dL_candidate_9
theorem e_L_candidate_10 (sc : SC) (p0 : Nat) (x1 : Int32) (x2 : Int32) (p3 : Nat) (v4 : AV) (h : AH) : Run sc n_L_candidate 10 [aD p0, aI x1, aI x2, aD p3, v4] none [] h = some (.inl (some (aI (nI 0))), h) := by
  refine (s_go mt_L_candidate dL_candidate_10 rfl).trans ?_
  refine (s_go mt_L_candidate dL_candidate_29 rfl).trans ?_
  exact q_ret (c := (some (aI (nI 0)), h)) mt_L_candidate dL_candidate_30 rfl
/-! BranchSlotFillerLaw.fill(LBranchSlotFiller;II[J)I -/
theorem e_L_fill_0 (sc : SC) (p0 : Nat) (x1 : Int32) (x2 : Int32) (p3 : Nat) (v4 : AV) (h : AH) : Run sc n_L_fill 0 [aD p0, aI x1, aI x2, aD p3, v4] none [] h = bI (rOK sc h (aD p0) 11 = true) (bC (Call sc n_X9_fill [aD p0, aI x1, aI x2] h) (fun v z => Run sc n_L_fill 8 [aD p0, aI x1, aI x2, aD p3, v4] none (v.toList ++ [aI (nI 0), aD p3]) z) (fun E z => xh sc n_L_fill [aD p0, aI x1, aI x2, aD p3, v4] none z E (hnd mi_L_fill 5 E (mHH mi_L_fill)))) := by
  refine (s_go mt_L_fill dL_fill_0 rfl).trans ?_
  refine (s_go mt_L_fill dL_fill_1 rfl).trans ?_
  refine (s_go mt_L_fill dL_fill_2 rfl).trans ?_
  refine (s_go mt_L_fill dL_fill_3 rfl).trans ?_
  refine (s_go mt_L_fill dL_fill_4 rfl).trans ?_
  exact q_cH mt_L_fill dL_fill_5 rfl mt_X9_fill rfl rfl
theorem e_L_fill_15 (sc : SC) (p0 : Nat) (x1 : Int32) (x2 : Int32) (p3 : Nat) (v4 : AV) (h : AH) : Run sc n_L_fill 15 [aD p0, aI x1, aI x2, aD p3, v4] none [] h = some (.inl (some (aI (nI 1))), h) := by
  refine (s_go mt_L_fill dL_fill_15 rfl).trans ?_
  exact q_ret (c := (some (aI (nI 1)), h)) mt_L_fill dL_fill_16 rfl
theorem e_L_fill_19 (sc : SC) (p0 : Nat) (x1 : Int32) (x2 : Int32) (p3 : Nat) (v4 : AV) (h : AH) : Run sc n_L_fill 19 [aD p0, aI x1, aI x2, aD p3, v4] none [] h = some (.inl (some (aI (nI 2))), h) := by
  refine (s_go mt_L_fill dL_fill_19 rfl).trans ?_
  exact q_ret (c := (some (aI (nI 2)), h)) mt_L_fill dL_fill_20 rfl
theorem e_L_fill_23 (sc : SC) (p0 : Nat) (x1 : Int32) (x2 : Int32) (p3 : Nat) (v4 : AV) (h : AH) : Run sc n_L_fill 23 [aD p0, aI x1, aI x2, aD p3, v4] none [] h = some (.inl (some (aI (nI 3))), h) := by
  refine (s_go mt_L_fill dL_fill_23 rfl).trans ?_
  exact q_ret (c := (some (aI (nI 3)), h)) mt_L_fill dL_fill_24 rfl
theorem e_L_fill_27 (sc : SC) (p0 : Nat) (x1 : Int32) (x2 : Int32) (p3 : Nat) (v4 : AV) (h : AH) : Run sc n_L_fill 27 [aD p0, aI x1, aI x2, aD p3, v4] none [] h = some (.inl (some (aI (nI 4))), h) := by
  refine (s_go mt_L_fill dL_fill_27 rfl).trans ?_
  exact q_ret (c := (some (aI (nI 4)), h)) mt_L_fill dL_fill_28 rfl
theorem e_L_fill_8 (sc : SC) (p0 : Nat) (x1 : Int32) (x2 : Int32) (p3 : Nat) (v4 : AV) (q0 : Nat) (y1 : Int32) (y2 : Int32) (h : AH) : Run sc n_L_fill 8 [aD p0, aI x1, aI x2, aD p3, v4] none [aI y2, aI y1, aD q0] h = bO (stL h q0 y1 ((y2).toInt64)) (fun z => Run sc n_L_fill 10 [aD p0, aI x1, aI x2, aD p3, v4] none [] z) := by
  refine (s_go mt_L_fill dL_fill_8 rfl).trans ?_
  exact q_lastore mt_L_fill dL_fill_9
theorem e_L_fill_10 (sc : SC) (p0 : Nat) (x1 : Int32) (x2 : Int32) (p3 : Nat) (v4 : AV) (h : AH) : Run sc n_L_fill 10 [aD p0, aI x1, aI x2, aD p3, v4] none [] h = some (.inl (some (aI (nI 0))), h) := by
  refine (s_go mt_L_fill dL_fill_10 rfl).trans ?_
  refine (s_go mt_L_fill dL_fill_29 rfl).trans ?_
  exact q_ret (c := (some (aI (nI 0)), h)) mt_L_fill dL_fill_30 rfl
/-! BranchSlotFillerLaw.fillAll(LBranchSlotFiller;II[J)I -/
theorem e_L_fillAll_0 (sc : SC) (p0 : Nat) (x1 : Int32) (x2 : Int32) (p3 : Nat) (v4 : AV) (h : AH) : Run sc n_L_fillAll 0 [aD p0, aI x1, aI x2, aD p3, v4] none [] h = bI (rOK sc h (aD p0) 11 = true) (bC (Call sc n_X9_fillAll [aD p0, aI x1, aI x2] h) (fun v z => Run sc n_L_fillAll 8 [aD p0, aI x1, aI x2, aD p3, v4] none (v.toList ++ [aI (nI 0), aD p3]) z) (fun E z => xh sc n_L_fillAll [aD p0, aI x1, aI x2, aD p3, v4] none z E (hnd mi_L_fillAll 5 E (mHH mi_L_fillAll)))) := by
  refine (s_go mt_L_fillAll dL_fillAll_0 rfl).trans ?_
  refine (s_go mt_L_fillAll dL_fillAll_1 rfl).trans ?_
  refine (s_go mt_L_fillAll dL_fillAll_2 rfl).trans ?_
  refine (s_go mt_L_fillAll dL_fillAll_3 rfl).trans ?_
  refine (s_go mt_L_fillAll dL_fillAll_4 rfl).trans ?_
  exact q_cH mt_L_fillAll dL_fillAll_5 rfl mt_X9_fillAll rfl rfl
theorem e_L_fillAll_15 (sc : SC) (p0 : Nat) (x1 : Int32) (x2 : Int32) (p3 : Nat) (v4 : AV) (h : AH) : Run sc n_L_fillAll 15 [aD p0, aI x1, aI x2, aD p3, v4] none [] h = some (.inl (some (aI (nI 1))), h) := by
  refine (s_go mt_L_fillAll dL_fillAll_15 rfl).trans ?_
  exact q_ret (c := (some (aI (nI 1)), h)) mt_L_fillAll dL_fillAll_16 rfl
theorem e_L_fillAll_8 (sc : SC) (p0 : Nat) (x1 : Int32) (x2 : Int32) (p3 : Nat) (v4 : AV) (q0 : Nat) (y1 : Int32) (y2 : Int32) (h : AH) : Run sc n_L_fillAll 8 [aD p0, aI x1, aI x2, aD p3, v4] none [aI y2, aI y1, aD q0] h = bO (stL h q0 y1 ((y2).toInt64)) (fun z => Run sc n_L_fillAll 10 [aD p0, aI x1, aI x2, aD p3, v4] none [] z) := by
  refine (s_go mt_L_fillAll dL_fillAll_8 rfl).trans ?_
  exact q_lastore mt_L_fillAll dL_fillAll_9
theorem e_L_fillAll_10 (sc : SC) (p0 : Nat) (x1 : Int32) (x2 : Int32) (p3 : Nat) (v4 : AV) (h : AH) : Run sc n_L_fillAll 10 [aD p0, aI x1, aI x2, aD p3, v4] none [] h = some (.inl (some (aI (nI 0))), h) := by
  refine (s_go mt_L_fillAll dL_fillAll_10 rfl).trans ?_
  refine (s_go mt_L_fillAll dL_fillAll_17 rfl).trans ?_
  exact q_ret (c := (some (aI (nI 0)), h)) mt_L_fillAll dL_fillAll_18 rfl
/-! BranchSlotFillerLaw.undo(LBranchSlotFiller;[J)I -/
theorem e_L_undo_0 (sc : SC) (p0 : Nat) (p1 : Nat) (v2 : AV) (h : AH) : Run sc n_L_undo 0 [aD p0, aD p1, v2] none [] h = bI (rOK sc h (aD p0) 11 = true) (bC (Call sc n_X9_undo [aD p0] h) (fun v z => Run sc n_L_undo 6 [aD p0, aD p1, v2] none (v.toList ++ [aI (nI 0), aD p1]) z) (fun E z => xh sc n_L_undo [aD p0, aD p1, v2] none z E (hnd mi_L_undo 3 E (mHH mi_L_undo)))) := by
  refine (s_go mt_L_undo dL_undo_0 rfl).trans ?_
  refine (s_go mt_L_undo dL_undo_1 rfl).trans ?_
  refine (s_go mt_L_undo dL_undo_2 rfl).trans ?_
  exact q_cH mt_L_undo dL_undo_3 rfl mt_X9_undo rfl rfl
theorem e_L_undo_12 (sc : SC) (p0 : Nat) (p1 : Nat) (v2 : AV) (h : AH) : Run sc n_L_undo 12 [aD p0, aD p1, v2] none [] h = some (.inl (some (aI (nI 1))), h) := by
  refine (s_go mt_L_undo dL_undo_12 rfl).trans ?_
  exact q_ret (c := (some (aI (nI 1)), h)) mt_L_undo dL_undo_13 rfl
theorem e_L_undo_6 (sc : SC) (p0 : Nat) (p1 : Nat) (v2 : AV) (q0 : Nat) (y1 : Int32) (y2 : Int32) (h : AH) : Run sc n_L_undo 6 [aD p0, aD p1, v2] none [aI y2, aI y1, aD q0] h = bO (stL h q0 y1 ((y2).toInt64)) (fun z => Run sc n_L_undo 8 [aD p0, aD p1, v2] none [] z) := by
  refine (s_go mt_L_undo dL_undo_6 rfl).trans ?_
  exact q_lastore mt_L_undo dL_undo_7
theorem e_L_undo_8 (sc : SC) (p0 : Nat) (p1 : Nat) (v2 : AV) (h : AH) : Run sc n_L_undo 8 [aD p0, aD p1, v2] none [] h = some (.inl (some (aI (nI 0))), h) := by
  refine (s_go mt_L_undo dL_undo_8 rfl).trans ?_
  refine (s_go mt_L_undo dL_undo_14 rfl).trans ?_
  exact q_ret (c := (some (aI (nI 0)), h)) mt_L_undo dL_undo_15 rfl
/-! BranchSlotFillerLaw.text(LBranchSlotFiller;I[J)I -/
theorem e_L_text_0 (sc : SC) (p0 : Nat) (x1 : Int32) (p2 : Nat) (v3 : AV) (h : AH) : Run sc n_L_text 0 [aD p0, aI x1, aD p2, v3] none [] h = bI (rOK sc h (aD p0) 11 = true) (bC (Call sc n_X9_text [aD p0, aI x1] h) (fun v z => Run sc n_L_text 7 [aD p0, aI x1, aD p2, v3] none (v.toList ++ [aI (nI 0), aD p2]) z) (fun E z => xh sc n_L_text [aD p0, aI x1, aD p2, v3] none z E (hnd mi_L_text 4 E (mHH mi_L_text)))) := by
  refine (s_go mt_L_text dL_text_0 rfl).trans ?_
  refine (s_go mt_L_text dL_text_1 rfl).trans ?_
  refine (s_go mt_L_text dL_text_2 rfl).trans ?_
  refine (s_go mt_L_text dL_text_3 rfl).trans ?_
  exact q_cH mt_L_text dL_text_4 rfl mt_X9_text rfl rfl
theorem e_L_text_13 (sc : SC) (p0 : Nat) (x1 : Int32) (p2 : Nat) (v3 : AV) (h : AH) : Run sc n_L_text 13 [aD p0, aI x1, aD p2, v3] none [] h = some (.inl (some (aI (nI 1))), h) := by
  refine (s_go mt_L_text dL_text_13 rfl).trans ?_
  exact q_ret (c := (some (aI (nI 1)), h)) mt_L_text dL_text_14 rfl
theorem e_L_text_7 (sc : SC) (p0 : Nat) (x1 : Int32) (p2 : Nat) (v3 : AV) (q0 : Nat) (y1 : Int32) (y2 : Int32) (h : AH) : Run sc n_L_text 7 [aD p0, aI x1, aD p2, v3] none [aI y2, aI y1, aD q0] h = bO (stL h q0 y1 ((y2).toInt64)) (fun z => Run sc n_L_text 9 [aD p0, aI x1, aD p2, v3] none [] z) := by
  refine (s_go mt_L_text dL_text_7 rfl).trans ?_
  exact q_lastore mt_L_text dL_text_8
theorem e_L_text_9 (sc : SC) (p0 : Nat) (x1 : Int32) (p2 : Nat) (v3 : AV) (h : AH) : Run sc n_L_text 9 [aD p0, aI x1, aD p2, v3] none [] h = some (.inl (some (aI (nI 0))), h) := by
  refine (s_go mt_L_text dL_text_9 rfl).trans ?_
  refine (s_go mt_L_text dL_text_15 rfl).trans ?_
  exact q_ret (c := (some (aI (nI 0)), h)) mt_L_text dL_text_16 rfl
/-! BranchSlotFillerLaw.setInitial(LBranchSlotFiller;ZII[J)I -/
theorem e_L_setInitial_0 (sc : SC) (p0 : Nat) (x1 : Int32) (x2 : Int32) (x3 : Int32) (p4 : Nat) (v5 : AV) (h : AH) : Run sc n_L_setInitial 0 [aD p0, aI x1, aI x2, aI x3, aD p4, v5] none [] h = bI (rOK sc h (aD p0) 11 = true) (bC (Call sc n_X9_setInitial [aD p0, aI x1, aI x2, aI x3] h) (fun v z => Run sc n_L_setInitial 10 [aD p0, aI x1, aI x2, aI x3, aD p4, v5] none (v.toList ++ [aI (nI 0), aD p4]) z) (fun E z => xh sc n_L_setInitial [aD p0, aI x1, aI x2, aI x3, aD p4, v5] none z E (hnd mi_L_setInitial 7 E (mHH mi_L_setInitial)))) := by
  refine (s_go mt_L_setInitial dL_setInitial_0 rfl).trans ?_
  refine (s_go mt_L_setInitial dL_setInitial_2 rfl).trans ?_
  refine (s_go mt_L_setInitial dL_setInitial_3 rfl).trans ?_
  refine (s_go mt_L_setInitial dL_setInitial_4 rfl).trans ?_
  refine (s_go mt_L_setInitial dL_setInitial_5 rfl).trans ?_
  refine (s_go mt_L_setInitial dL_setInitial_6 rfl).trans ?_
  exact q_cH mt_L_setInitial dL_setInitial_7 rfl mt_X9_setInitial rfl rfl
theorem e_L_setInitial_17 (sc : SC) (p0 : Nat) (x1 : Int32) (x2 : Int32) (x3 : Int32) (p4 : Nat) (v5 : AV) (h : AH) : Run sc n_L_setInitial 17 [aD p0, aI x1, aI x2, aI x3, aD p4, v5] none [] h = some (.inl (some (aI (nI 1))), h) := by
  refine (s_go mt_L_setInitial dL_setInitial_17 rfl).trans ?_
  exact q_ret (c := (some (aI (nI 1)), h)) mt_L_setInitial dL_setInitial_18 rfl
theorem e_L_setInitial_10 (sc : SC) (p0 : Nat) (x1 : Int32) (x2 : Int32) (x3 : Int32) (p4 : Nat) (v5 : AV) (q0 : Nat) (y1 : Int32) (y2 : Int32) (h : AH) : Run sc n_L_setInitial 10 [aD p0, aI x1, aI x2, aI x3, aD p4, v5] none [aI y2, aI y1, aD q0] h = bO (stL h q0 y1 ((y2).toInt64)) (fun z => Run sc n_L_setInitial 12 [aD p0, aI x1, aI x2, aI x3, aD p4, v5] none [] z) := by
  refine (s_go mt_L_setInitial dL_setInitial_10 rfl).trans ?_
  exact q_lastore mt_L_setInitial dL_setInitial_11
theorem e_L_setInitial_12 (sc : SC) (p0 : Nat) (x1 : Int32) (x2 : Int32) (x3 : Int32) (p4 : Nat) (v5 : AV) (h : AH) : Run sc n_L_setInitial 12 [aD p0, aI x1, aI x2, aI x3, aD p4, v5] none [] h = some (.inl (some (aI (nI 0))), h) := by
  refine (s_go mt_L_setInitial dL_setInitial_12 rfl).trans ?_
  refine (s_go mt_L_setInitial dL_setInitial_19 rfl).trans ?_
  exact q_ret (c := (some (aI (nI 0)), h)) mt_L_setInitial dL_setInitial_20 rfl
/-! BranchSlotFillerLaw.run(LBranchSlotFiller;ZI[J)I -/
theorem e_L_run_0 (sc : SC) (p0 : Nat) (x1 : Int32) (x2 : Int32) (p3 : Nat) (v4 : AV) (h : AH) : Run sc n_L_run 0 [aD p0, aI x1, aI x2, aD p3, v4] none [] h = bI (rOK sc h (aD p0) 11 = true) (bC (Call sc n_X9_run [aD p0, aI x1, aI x2] h) (fun v z => Run sc n_L_run 8 [aD p0, aI x1, aI x2, aD p3, v4] none (v.toList ++ [aI (nI 0), aD p3]) z) (fun E z => xh sc n_L_run [aD p0, aI x1, aI x2, aD p3, v4] none z E (hnd mi_L_run 5 E (mHH mi_L_run)))) := by
  refine (s_go mt_L_run dL_run_0 rfl).trans ?_
  refine (s_go mt_L_run dL_run_1 rfl).trans ?_
  refine (s_go mt_L_run dL_run_2 rfl).trans ?_
  refine (s_go mt_L_run dL_run_3 rfl).trans ?_
  refine (s_go mt_L_run dL_run_4 rfl).trans ?_
  exact q_cH mt_L_run dL_run_5 rfl mt_X9_run rfl rfl
theorem e_L_run_15 (sc : SC) (p0 : Nat) (x1 : Int32) (x2 : Int32) (p3 : Nat) (v4 : AV) (h : AH) : Run sc n_L_run 15 [aD p0, aI x1, aI x2, aD p3, v4] none [] h = some (.inl (some (aI (nI 1))), h) := by
  refine (s_go mt_L_run dL_run_15 rfl).trans ?_
  exact q_ret (c := (some (aI (nI 1)), h)) mt_L_run dL_run_16 rfl
theorem e_L_run_19 (sc : SC) (p0 : Nat) (x1 : Int32) (x2 : Int32) (p3 : Nat) (v4 : AV) (h : AH) : Run sc n_L_run 19 [aD p0, aI x1, aI x2, aD p3, v4] none [] h = some (.inl (some (aI (nI 2))), h) := by
  refine (s_go mt_L_run dL_run_19 rfl).trans ?_
  exact q_ret (c := (some (aI (nI 2)), h)) mt_L_run dL_run_20 rfl
theorem e_L_run_8 (sc : SC) (p0 : Nat) (x1 : Int32) (x2 : Int32) (p3 : Nat) (v4 : AV) (q0 : Nat) (y1 : Int32) (y2 : Int32) (h : AH) : Run sc n_L_run 8 [aD p0, aI x1, aI x2, aD p3, v4] none [aI y2, aI y1, aD q0] h = bO (stL h q0 y1 ((y2).toInt64)) (fun z => Run sc n_L_run 10 [aD p0, aI x1, aI x2, aD p3, v4] none [] z) := by
  refine (s_go mt_L_run dL_run_8 rfl).trans ?_
  exact q_lastore mt_L_run dL_run_9
theorem e_L_run_10 (sc : SC) (p0 : Nat) (x1 : Int32) (x2 : Int32) (p3 : Nat) (v4 : AV) (h : AH) : Run sc n_L_run 10 [aD p0, aI x1, aI x2, aD p3, v4] none [] h = some (.inl (some (aI (nI 0))), h) := by
  refine (s_go mt_L_run dL_run_10 rfl).trans ?_
  refine (s_go mt_L_run dL_run_21 rfl).trans ?_
  exact q_ret (c := (some (aI (nI 0)), h)) mt_L_run dL_run_22 rfl
/-! BranchSlotFillerLaw.finalValue(LBranchSlotFiller;ZI[J)I -/
theorem e_L_finalValue_0 (sc : SC) (p0 : Nat) (x1 : Int32) (x2 : Int32) (p3 : Nat) (v4 : AV) (h : AH) : Run sc n_L_finalValue 0 [aD p0, aI x1, aI x2, aD p3, v4] none [] h = bI (rOK sc h (aD p0) 11 = true) (bC (Call sc n_X9_finalValue [aD p0, aI x1, aI x2] h) (fun v z => Run sc n_L_finalValue 8 [aD p0, aI x1, aI x2, aD p3, v4] none (v.toList ++ [aI (nI 0), aD p3]) z) (fun E z => xh sc n_L_finalValue [aD p0, aI x1, aI x2, aD p3, v4] none z E (hnd mi_L_finalValue 5 E (mHH mi_L_finalValue)))) := by
  refine (s_go mt_L_finalValue dL_finalValue_0 rfl).trans ?_
  refine (s_go mt_L_finalValue dL_finalValue_1 rfl).trans ?_
  refine (s_go mt_L_finalValue dL_finalValue_2 rfl).trans ?_
  refine (s_go mt_L_finalValue dL_finalValue_3 rfl).trans ?_
  refine (s_go mt_L_finalValue dL_finalValue_4 rfl).trans ?_
  exact q_cH mt_L_finalValue dL_finalValue_5 rfl mt_X9_finalValue rfl rfl
theorem e_L_finalValue_15 (sc : SC) (p0 : Nat) (x1 : Int32) (x2 : Int32) (p3 : Nat) (v4 : AV) (h : AH) : Run sc n_L_finalValue 15 [aD p0, aI x1, aI x2, aD p3, v4] none [] h = some (.inl (some (aI (nI 1))), h) := by
  refine (s_go mt_L_finalValue dL_finalValue_15 rfl).trans ?_
  exact q_ret (c := (some (aI (nI 1)), h)) mt_L_finalValue dL_finalValue_16 rfl
theorem e_L_finalValue_19 (sc : SC) (p0 : Nat) (x1 : Int32) (x2 : Int32) (p3 : Nat) (v4 : AV) (h : AH) : Run sc n_L_finalValue 19 [aD p0, aI x1, aI x2, aD p3, v4] none [] h = some (.inl (some (aI (nI 2))), h) := by
  refine (s_go mt_L_finalValue dL_finalValue_19 rfl).trans ?_
  exact q_ret (c := (some (aI (nI 2)), h)) mt_L_finalValue dL_finalValue_20 rfl
theorem e_L_finalValue_8 (sc : SC) (p0 : Nat) (x1 : Int32) (x2 : Int32) (p3 : Nat) (v4 : AV) (q0 : Nat) (y1 : Int32) (y2 : Int32) (h : AH) : Run sc n_L_finalValue 8 [aD p0, aI x1, aI x2, aD p3, v4] none [aI y2, aI y1, aD q0] h = bO (stL h q0 y1 ((y2).toInt64)) (fun z => Run sc n_L_finalValue 10 [aD p0, aI x1, aI x2, aD p3, v4] none [] z) := by
  refine (s_go mt_L_finalValue dL_finalValue_8 rfl).trans ?_
  exact q_lastore mt_L_finalValue dL_finalValue_9
theorem e_L_finalValue_10 (sc : SC) (p0 : Nat) (x1 : Int32) (x2 : Int32) (p3 : Nat) (v4 : AV) (h : AH) : Run sc n_L_finalValue 10 [aD p0, aI x1, aI x2, aD p3, v4] none [] h = some (.inl (some (aI (nI 0))), h) := by
  refine (s_go mt_L_finalValue dL_finalValue_10 rfl).trans ?_
  refine (s_go mt_L_finalValue dL_finalValue_21 rfl).trans ?_
  exact q_ret (c := (some (aI (nI 0)), h)) mt_L_finalValue dL_finalValue_22 rfl
/-! BranchSlotFillerLaw.outputs(LBranchSlotFiller;[J)I -/
theorem e_L_outputs_0 (sc : SC) (p0 : Nat) (p1 : Nat) (v2 : AV) (h : AH) : Run sc n_L_outputs 0 [aD p0, aD p1, v2] none [] h = bI (rOK sc h (aD p0) 11 = true) (bC (Call sc n_X9_outputs [aD p0] h) (fun v z => Run sc n_L_outputs 6 [aD p0, aD p1, v2] none (v.toList ++ [aI (nI 0), aD p1]) z) (fun E z => xh sc n_L_outputs [aD p0, aD p1, v2] none z E (hnd mi_L_outputs 3 E (mHH mi_L_outputs)))) := by
  refine (s_go mt_L_outputs dL_outputs_0 rfl).trans ?_
  refine (s_go mt_L_outputs dL_outputs_1 rfl).trans ?_
  refine (s_go mt_L_outputs dL_outputs_2 rfl).trans ?_
  exact q_cH mt_L_outputs dL_outputs_3 rfl mt_X9_outputs rfl rfl
theorem e_L_outputs_12 (sc : SC) (p0 : Nat) (p1 : Nat) (v2 : AV) (h : AH) : Run sc n_L_outputs 12 [aD p0, aD p1, v2] none [] h = some (.inl (some (aI (nI 1))), h) := by
  refine (s_go mt_L_outputs dL_outputs_12 rfl).trans ?_
  exact q_ret (c := (some (aI (nI 1)), h)) mt_L_outputs dL_outputs_13 rfl
theorem e_L_outputs_6 (sc : SC) (p0 : Nat) (p1 : Nat) (v2 : AV) (q0 : Nat) (y1 : Int32) (y2 : Int32) (h : AH) : Run sc n_L_outputs 6 [aD p0, aD p1, v2] none [aI y2, aI y1, aD q0] h = bO (stL h q0 y1 ((y2).toInt64)) (fun z => Run sc n_L_outputs 8 [aD p0, aD p1, v2] none [] z) := by
  refine (s_go mt_L_outputs dL_outputs_6 rfl).trans ?_
  exact q_lastore mt_L_outputs dL_outputs_7
theorem e_L_outputs_8 (sc : SC) (p0 : Nat) (p1 : Nat) (v2 : AV) (h : AH) : Run sc n_L_outputs 8 [aD p0, aD p1, v2] none [] h = some (.inl (some (aI (nI 0))), h) := by
  refine (s_go mt_L_outputs dL_outputs_8 rfl).trans ?_
  refine (s_go mt_L_outputs dL_outputs_14 rfl).trans ?_
  exact q_ret (c := (some (aI (nI 0)), h)) mt_L_outputs dL_outputs_15 rfl
/-! BranchSlotFillerLaw.output(LBranchSlotFiller;I[J)I -/
theorem e_L_output_0 (sc : SC) (p0 : Nat) (x1 : Int32) (p2 : Nat) (v3 : AV) (h : AH) : Run sc n_L_output 0 [aD p0, aI x1, aD p2, v3] none [] h = bI (rOK sc h (aD p0) 11 = true) (bC (Call sc n_X9_output [aD p0, aI x1] h) (fun v z => Run sc n_L_output 7 [aD p0, aI x1, aD p2, v3] none (v.toList ++ [aI (nI 0), aD p2]) z) (fun E z => xh sc n_L_output [aD p0, aI x1, aD p2, v3] none z E (hnd mi_L_output 4 E (mHH mi_L_output)))) := by
  refine (s_go mt_L_output dL_output_0 rfl).trans ?_
  refine (s_go mt_L_output dL_output_1 rfl).trans ?_
  refine (s_go mt_L_output dL_output_2 rfl).trans ?_
  refine (s_go mt_L_output dL_output_3 rfl).trans ?_
  exact q_cH mt_L_output dL_output_4 rfl mt_X9_output rfl rfl
theorem e_L_output_13 (sc : SC) (p0 : Nat) (x1 : Int32) (p2 : Nat) (v3 : AV) (h : AH) : Run sc n_L_output 13 [aD p0, aI x1, aD p2, v3] none [] h = some (.inl (some (aI (nI 1))), h) := by
  refine (s_go mt_L_output dL_output_13 rfl).trans ?_
  exact q_ret (c := (some (aI (nI 1)), h)) mt_L_output dL_output_14 rfl
theorem e_L_output_16 (sc : SC) (p0 : Nat) (x1 : Int32) (p2 : Nat) (v3 : AV) (h : AH) : Run sc n_L_output 16 [aD p0, aI x1, aD p2, v3] none [] h = some (.inl (some (aI (nI 2))), h) := by
  refine (s_go mt_L_output dL_output_16 rfl).trans ?_
  exact q_ret (c := (some (aI (nI 2)), h)) mt_L_output dL_output_17 rfl
theorem e_L_output_7 (sc : SC) (p0 : Nat) (x1 : Int32) (p2 : Nat) (v3 : AV) (q0 : Nat) (y1 : Int32) (y2 : Int32) (h : AH) : Run sc n_L_output 7 [aD p0, aI x1, aD p2, v3] none [aI y2, aI y1, aD q0] h = bO (stL h q0 y1 ((y2).toInt64)) (fun z => Run sc n_L_output 9 [aD p0, aI x1, aD p2, v3] none [] z) := by
  refine (s_go mt_L_output dL_output_7 rfl).trans ?_
  exact q_lastore mt_L_output dL_output_8
theorem e_L_output_9 (sc : SC) (p0 : Nat) (x1 : Int32) (p2 : Nat) (v3 : AV) (h : AH) : Run sc n_L_output 9 [aD p0, aI x1, aD p2, v3] none [] h = some (.inl (some (aI (nI 0))), h) := by
  refine (s_go mt_L_output dL_output_9 rfl).trans ?_
  refine (s_go mt_L_output dL_output_18 rfl).trans ?_
  exact q_ret (c := (some (aI (nI 0)), h)) mt_L_output dL_output_19 rfl
/-! BranchSlotFillerLaw.differences(LBranchSlotFiller;II[J)I -/
theorem e_L_differences_0 (sc : SC) (p0 : Nat) (x1 : Int32) (x2 : Int32) (p3 : Nat) (v4 : AV) (h : AH) : Run sc n_L_differences 0 [aD p0, aI x1, aI x2, aD p3, v4] none [] h = bI (rOK sc h (aD p0) 11 = true) (bC (Call sc n_X9_differences [aD p0, aI x1, aI x2] h) (fun v z => Run sc n_L_differences 8 [aD p0, aI x1, aI x2, aD p3, v4] none (v.toList ++ [aI (nI 0), aD p3]) z) (fun E z => xh sc n_L_differences [aD p0, aI x1, aI x2, aD p3, v4] none z E (hnd mi_L_differences 5 E (mHH mi_L_differences)))) := by
  refine (s_go mt_L_differences dL_differences_0 rfl).trans ?_
  refine (s_go mt_L_differences dL_differences_1 rfl).trans ?_
  refine (s_go mt_L_differences dL_differences_2 rfl).trans ?_
  refine (s_go mt_L_differences dL_differences_3 rfl).trans ?_
  refine (s_go mt_L_differences dL_differences_4 rfl).trans ?_
  exact q_cH mt_L_differences dL_differences_5 rfl mt_X9_differences rfl rfl
theorem e_L_differences_15 (sc : SC) (p0 : Nat) (x1 : Int32) (x2 : Int32) (p3 : Nat) (v4 : AV) (h : AH) : Run sc n_L_differences 15 [aD p0, aI x1, aI x2, aD p3, v4] none [] h = some (.inl (some (aI (nI 1))), h) := by
  refine (s_go mt_L_differences dL_differences_15 rfl).trans ?_
  exact q_ret (c := (some (aI (nI 1)), h)) mt_L_differences dL_differences_16 rfl
theorem e_L_differences_8 (sc : SC) (p0 : Nat) (x1 : Int32) (x2 : Int32) (p3 : Nat) (v4 : AV) (q0 : Nat) (y1 : Int32) (y2 : Int32) (h : AH) : Run sc n_L_differences 8 [aD p0, aI x1, aI x2, aD p3, v4] none [aI y2, aI y1, aD q0] h = bO (stL h q0 y1 ((y2).toInt64)) (fun z => Run sc n_L_differences 10 [aD p0, aI x1, aI x2, aD p3, v4] none [] z) := by
  refine (s_go mt_L_differences dL_differences_8 rfl).trans ?_
  exact q_lastore mt_L_differences dL_differences_9
theorem e_L_differences_10 (sc : SC) (p0 : Nat) (x1 : Int32) (x2 : Int32) (p3 : Nat) (v4 : AV) (h : AH) : Run sc n_L_differences 10 [aD p0, aI x1, aI x2, aD p3, v4] none [] h = some (.inl (some (aI (nI 0))), h) := by
  refine (s_go mt_L_differences dL_differences_10 rfl).trans ?_
  refine (s_go mt_L_differences dL_differences_17 rfl).trans ?_
  exact q_ret (c := (some (aI (nI 0)), h)) mt_L_differences dL_differences_18 rfl
/-! BranchSlotFillerLaw.meanSteps(LBranchSlotFiller;II[D)I -/
theorem e_L_meanSteps_0 (sc : SC) (p0 : Nat) (x1 : Int32) (x2 : Int32) (p3 : Nat) (v4 : AV) (h : AH) : Run sc n_L_meanSteps 0 [aD p0, aI x1, aI x2, aD p3, v4] none [] h = bI (rOK sc h (aD p0) 11 = true) (bC (Call sc n_X9_meanSteps [aD p0, aI x1, aI x2] h) (fun v z => Run sc n_L_meanSteps 8 [aD p0, aI x1, aI x2, aD p3, v4] none (v.toList ++ [aI (nI 0), aD p3]) z) (fun E z => xh sc n_L_meanSteps [aD p0, aI x1, aI x2, aD p3, v4] none z E (hnd mi_L_meanSteps 5 E (mHH mi_L_meanSteps)))) := by
  refine (s_go mt_L_meanSteps dL_meanSteps_0 rfl).trans ?_
  refine (s_go mt_L_meanSteps dL_meanSteps_1 rfl).trans ?_
  refine (s_go mt_L_meanSteps dL_meanSteps_2 rfl).trans ?_
  refine (s_go mt_L_meanSteps dL_meanSteps_3 rfl).trans ?_
  refine (s_go mt_L_meanSteps dL_meanSteps_4 rfl).trans ?_
  exact q_cH mt_L_meanSteps dL_meanSteps_5 rfl mt_X9_meanSteps rfl rfl
theorem e_L_meanSteps_14 (sc : SC) (p0 : Nat) (x1 : Int32) (x2 : Int32) (p3 : Nat) (v4 : AV) (h : AH) : Run sc n_L_meanSteps 14 [aD p0, aI x1, aI x2, aD p3, v4] none [] h = some (.inl (some (aI (nI 1))), h) := by
  refine (s_go mt_L_meanSteps dL_meanSteps_14 rfl).trans ?_
  exact q_ret (c := (some (aI (nI 1)), h)) mt_L_meanSteps dL_meanSteps_15 rfl
theorem e_L_meanSteps_8 (sc : SC) (p0 : Nat) (x1 : Int32) (x2 : Int32) (p3 : Nat) (v4 : AV) (q0 : Nat) (y1 : Int32) (e2 : UInt64) (h : AH) : Run sc n_L_meanSteps 8 [aD p0, aI x1, aI x2, aD p3, v4] none [aE e2, aI y1, aD q0] h = bO (stE h q0 y1 e2) (fun z => Run sc n_L_meanSteps 9 [aD p0, aI x1, aI x2, aD p3, v4] none [] z) := by
  exact q_dastore mt_L_meanSteps dL_meanSteps_8
theorem e_L_meanSteps_9 (sc : SC) (p0 : Nat) (x1 : Int32) (x2 : Int32) (p3 : Nat) (v4 : AV) (h : AH) : Run sc n_L_meanSteps 9 [aD p0, aI x1, aI x2, aD p3, v4] none [] h = some (.inl (some (aI (nI 0))), h) := by
  refine (s_go mt_L_meanSteps dL_meanSteps_9 rfl).trans ?_
  refine (s_go mt_L_meanSteps dL_meanSteps_16 rfl).trans ?_
  exact q_ret (c := (some (aI (nI 0)), h)) mt_L_meanSteps dL_meanSteps_17 rfl
/-! BranchSlotFillerLaw.filledShare(LBranchSlotFiller;[D)I -/
theorem e_L_filledShare_0 (sc : SC) (p0 : Nat) (p1 : Nat) (v2 : AV) (h : AH) : Run sc n_L_filledShare 0 [aD p0, aD p1, v2] none [] h = bI (rOK sc h (aD p0) 11 = true) (bC (Call sc n_X9_filledShare [aD p0] h) (fun v z => Run sc n_L_filledShare 6 [aD p0, aD p1, v2] none (v.toList ++ [aI (nI 0), aD p1]) z) (fun E z => xh sc n_L_filledShare [aD p0, aD p1, v2] none z E (hnd mi_L_filledShare 3 E (mHH mi_L_filledShare)))) := by
  refine (s_go mt_L_filledShare dL_filledShare_0 rfl).trans ?_
  refine (s_go mt_L_filledShare dL_filledShare_1 rfl).trans ?_
  refine (s_go mt_L_filledShare dL_filledShare_2 rfl).trans ?_
  exact q_cH mt_L_filledShare dL_filledShare_3 rfl mt_X9_filledShare rfl rfl
theorem e_L_filledShare_12 (sc : SC) (p0 : Nat) (p1 : Nat) (v2 : AV) (h : AH) : Run sc n_L_filledShare 12 [aD p0, aD p1, v2] none [] h = some (.inl (some (aI (nI 1))), h) := by
  refine (s_go mt_L_filledShare dL_filledShare_12 rfl).trans ?_
  exact q_ret (c := (some (aI (nI 1)), h)) mt_L_filledShare dL_filledShare_13 rfl
theorem e_L_filledShare_6 (sc : SC) (p0 : Nat) (p1 : Nat) (v2 : AV) (q0 : Nat) (y1 : Int32) (g2 : UInt32) (h : AH) : Run sc n_L_filledShare 6 [aD p0, aD p1, v2] none [aF g2, aI y1, aD q0] h = bI (FP.f2d g2 &&& 0x7fffffffffffffff ≤ 0x7ff0000000000000) (Run sc n_L_filledShare 7 [aD p0, aD p1, v2] none [aE (FP.f2d g2), aI y1, aD q0] h) := by
  exact q_f2d mt_L_filledShare dL_filledShare_6
theorem e_L_filledShare_7 (sc : SC) (p0 : Nat) (p1 : Nat) (v2 : AV) (q0 : Nat) (y1 : Int32) (e2 : UInt64) (h : AH) : Run sc n_L_filledShare 7 [aD p0, aD p1, v2] none [aE e2, aI y1, aD q0] h = bO (stE h q0 y1 e2) (fun z => Run sc n_L_filledShare 8 [aD p0, aD p1, v2] none [] z) := by
  exact q_dastore mt_L_filledShare dL_filledShare_7
theorem e_L_filledShare_8 (sc : SC) (p0 : Nat) (p1 : Nat) (v2 : AV) (h : AH) : Run sc n_L_filledShare 8 [aD p0, aD p1, v2] none [] h = some (.inl (some (aI (nI 0))), h) := by
  refine (s_go mt_L_filledShare dL_filledShare_8 rfl).trans ?_
  refine (s_go mt_L_filledShare dL_filledShare_14 rfl).trans ?_
  exact q_ret (c := (some (aI (nI 0)), h)) mt_L_filledShare dL_filledShare_15 rfl
/-! BranchSlotFillerLaw.restore(LBranchSlotFiller;[J)I -/
theorem e_L_restore_0 (sc : SC) (p0 : Nat) (p1 : Nat) (v2 : AV) (h : AH) : Run sc n_L_restore 0 [aD p0, aD p1, v2] none [] h = bI (rOK sc h (aD p0) 11 = true) (bC (Call sc n_X9_restore [aD p0] h) (fun v z => Run sc n_L_restore 6 [aD p0, aD p1, v2] none (v.toList ++ [aI (nI 0), aD p1]) z) (fun E z => xh sc n_L_restore [aD p0, aD p1, v2] none z E (hnd mi_L_restore 3 E (mHH mi_L_restore)))) := by
  refine (s_go mt_L_restore dL_restore_0 rfl).trans ?_
  refine (s_go mt_L_restore dL_restore_1 rfl).trans ?_
  refine (s_go mt_L_restore dL_restore_2 rfl).trans ?_
  exact q_cH mt_L_restore dL_restore_3 rfl mt_X9_restore rfl rfl
theorem e_L_restore_12 (sc : SC) (p0 : Nat) (p1 : Nat) (v2 : AV) (h : AH) : Run sc n_L_restore 12 [aD p0, aD p1, v2] none [] h = some (.inl (some (aI (nI 1))), h) := by
  refine (s_go mt_L_restore dL_restore_12 rfl).trans ?_
  exact q_ret (c := (some (aI (nI 1)), h)) mt_L_restore dL_restore_13 rfl
theorem e_L_restore_6 (sc : SC) (p0 : Nat) (p1 : Nat) (v2 : AV) (q0 : Nat) (y1 : Int32) (y2 : Int32) (h : AH) : Run sc n_L_restore 6 [aD p0, aD p1, v2] none [aI y2, aI y1, aD q0] h = bO (stL h q0 y1 ((y2).toInt64)) (fun z => Run sc n_L_restore 8 [aD p0, aD p1, v2] none [] z) := by
  refine (s_go mt_L_restore dL_restore_6 rfl).trans ?_
  exact q_lastore mt_L_restore dL_restore_7
theorem e_L_restore_8 (sc : SC) (p0 : Nat) (p1 : Nat) (v2 : AV) (h : AH) : Run sc n_L_restore 8 [aD p0, aD p1, v2] none [] h = some (.inl (some (aI (nI 0))), h) := by
  refine (s_go mt_L_restore dL_restore_8 rfl).trans ?_
  refine (s_go mt_L_restore dL_restore_14 rfl).trans ?_
  exact q_ret (c := (some (aI (nI 0)), h)) mt_L_restore dL_restore_15 rfl
/-! BranchSlotFillerLaw.law([I)Z -/
theorem e_L_law_0 (sc : SC) (c0 : Nat) (v1 : AV) (v2 : AV) (v3 : AV) (v4 : AV) (v5 : AV) (v6 : AV) (v7 : AV) (v8 : AV) (dl : DL) (h : AH) : Run sc n_L_law 0 [aC c0, v1, v2, v3, v4, v5, v6, v7, v8] dl [] h = bC (Call sc n_X9_init [aD h.1.length] (hpush h (oO 11 [aN, aN, aN, aN, aN, aN, aN, aN, aN, aN, aN, aN, aI 0, aN, aN, aN, aI 0]))) (fun v z => Run sc n_L_law 7 [aC c0, v1, v2, v3, v4, v5, v6, v7, v8] dl (v.toList ++ [aD h.1.length]) z) (fun _ _ => none) := by
  refine (s_go mt_L_law dL_law_0 rfl).trans ?_
  refine (s_go mt_L_law dL_law_3 rfl).trans ?_
  exact q_cI mt_L_law dL_law_4 rfl mt_X9_init rfl rfl rfl
theorem e_L_law_28 (sc : SC) (c0 : Nat) (p1 : Nat) (p2 : Nat) (p3 : Nat) (p4 : Nat) (x5 : Int32) (v6 : AV) (v7 : AV) (v8 : AV) (dl : DL) (h : AH) : Run sc n_L_law 28 [aC c0, aD p1, aD p2, aD p3, aD p4, aI x5, v6, v7, v8] dl [] h = bO (lenA sc h (aC c0)) (fun z => Run sc n_L_law 32 [aC c0, aD p1, aD p2, aD p3, aD p4, aI x5, v6, v7, v8] dl [aI (nI z), aI x5] h) := by
  refine (s_go mt_L_law dL_law_28 rfl).trans ?_
  refine (s_go mt_L_law dL_law_30 rfl).trans ?_
  exact q_alen mt_L_law dL_law_31
theorem e_L_law_37 (sc : SC) (c0 : Nat) (p1 : Nat) (p2 : Nat) (p3 : Nat) (p4 : Nat) (x5 : Int32) (v6 : AV) (v7 : AV) (v8 : AV) (dl : DL) (h : AH) : Run sc n_L_law 37 [aC c0, aD p1, aD p2, aD p3, aD p4, aI x5, v6, v7, v8] dl [] h = bO (ldI sc h (fun t => t == 0) (aC c0) x5) (fun z => Run sc n_L_law 41 [aC c0, aD p1, aD p2, aD p3, aD p4, aI x5, v6, v7, v8] dl [aI z] h) := by
  refine (s_go mt_L_law dL_law_37 rfl).trans ?_
  refine (s_go mt_L_law dL_law_38 rfl).trans ?_
  exact q_iaload mt_L_law dL_law_40
theorem e_L_law_168 (sc : SC) (c0 : Nat) (p1 : Nat) (p2 : Nat) (p3 : Nat) (p4 : Nat) (x5 : Int32) (v6 : AV) (v7 : AV) (v8 : AV) (dl : DL) (h : AH) : Run sc n_L_law 168 [aC c0, aD p1, aD p2, aD p3, aD p4, aI x5, v6, v7, v8] dl [] h = bO (ldI sc h (fun t => t == 0) (aC c0) (x5 + (nI 1))) (fun z => Run sc n_L_law 175 [aC c0, aD p1, aD p2, aD p3, aD p4, aI x5, v6, v7, v8] dl [aI z, aD p1] h) := by
  refine (s_go mt_L_law dL_law_168 rfl).trans ?_
  refine (s_go mt_L_law dL_law_169 rfl).trans ?_
  refine (s_go mt_L_law dL_law_170 rfl).trans ?_
  refine (s_go mt_L_law dL_law_172 rfl).trans ?_
  refine (s_go mt_L_law dL_law_173 rfl).trans ?_
  exact q_iaload mt_L_law dL_law_174
theorem e_L_law_204 (sc : SC) (c0 : Nat) (p1 : Nat) (p2 : Nat) (p3 : Nat) (p4 : Nat) (x5 : Int32) (x6 : Int32) (x7 : Int32) (v8 : AV) (dl : DL) (h : AH) : Run sc n_L_law 204 [aC c0, aD p1, aD p2, aD p3, aD p4, aI x5, aI x6, aI x7, v8] dl [] h = some (.inl (some (aI (nI 0))), h) := by
  refine (s_go mt_L_law dL_law_204 rfl).trans ?_
  exact q_ret (c := (some (aI (nI 0)), h)) mt_L_law dL_law_205 rfl
theorem e_L_law_206 (sc : SC) (c0 : Nat) (p1 : Nat) (p2 : Nat) (p3 : Nat) (p4 : Nat) (x5 : Int32) (x6 : Int32) (x7 : Int32) (v8 : AV) (dl : DL) (h : AH) : Run sc n_L_law 206 [aC c0, aD p1, aD p2, aD p3, aD p4, aI x5, aI x6, aI x7, v8] dl [] h = Run sc n_L_law (if ¬ x6 = 0 then 223 else 211) [aC c0, aD p1, aD p2, aD p3, aD p4, aI x5, aI x6, aI x7, v8] dl [] h := by
  refine (s_go mt_L_law dL_law_206 rfl).trans ?_
  exact q_if mt_L_law dL_law_208 (fun _ _ _ _ => rfl) rfl
theorem e_L_law_211 (sc : SC) (c0 : Nat) (p1 : Nat) (p2 : Nat) (p3 : Nat) (p4 : Nat) (x5 : Int32) (x6 : Int32) (x7 : Int32) (v8 : AV) (dl : DL) (h : AH) : Run sc n_L_law 211 [aC c0, aD p1, aD p2, aD p3, aD p4, aI x5, aI x6, aI x7, v8] dl [] h = bO (ldL h p3 (nI 0)) (fun z => Run sc n_L_law 214 [aC c0, aD p1, aD p2, aD p3, aD p4, aI x5, aI x6, aI x7, v8] dl [aL z] h) := by
  refine (s_go mt_L_law dL_law_211 rfl).trans ?_
  refine (s_go mt_L_law dL_law_212 rfl).trans ?_
  exact q_laload mt_L_law dL_law_213
theorem e_L_law_221 (sc : SC) (c0 : Nat) (p1 : Nat) (p2 : Nat) (p3 : Nat) (p4 : Nat) (x5 : Int32) (x6 : Int32) (x7 : Int32) (v8 : AV) (dl : DL) (h : AH) : Run sc n_L_law 221 [aC c0, aD p1, aD p2, aD p3, aD p4, aI x5, aI x6, aI x7, v8] dl [] h = some (.inl (some (aI (nI 0))), h) := by
  refine (s_go mt_L_law dL_law_221 rfl).trans ?_
  exact q_ret (c := (some (aI (nI 0)), h)) mt_L_law dL_law_222 rfl
theorem e_L_law_223 (sc : SC) (c0 : Nat) (p1 : Nat) (p2 : Nat) (p3 : Nat) (p4 : Nat) (x5 : Int32) (x6 : Int32) (x7 : Int32) (v8 : AV) (dl : DL) (h : AH) : Run sc n_L_law 223 [aC c0, aD p1, aD p2, aD p3, aD p4, aI x5, aI x6, aI x7, v8] dl [] h = Run sc n_L_law 1606 [aC c0, aD p1, aD p2, aD p3, aD p4, aI x5, aI x6, aI x7, v8] dl [] h := by
  refine (s_go mt_L_law dL_law_223 rfl).trans ?_
  exact rfl
theorem e_L_law_226 (sc : SC) (c0 : Nat) (p1 : Nat) (p2 : Nat) (p3 : Nat) (p4 : Nat) (x5 : Int32) (v6 : AV) (v7 : AV) (v8 : AV) (dl : DL) (h : AH) : Run sc n_L_law 226 [aC c0, aD p1, aD p2, aD p3, aD p4, aI x5, v6, v7, v8] dl [] h = bC (Call sc n_L_parse [aD p1, aD p3] h) (fun v z => Run sc n_L_law 231 [aC c0, aD p1, aD p2, aD p3, aD p4, aI x5, v6, v7, v8] dl (v.toList ++ []) z) (fun _ _ => none) := by
  refine (s_go mt_L_law dL_law_226 rfl).trans ?_
  refine (s_go mt_L_law dL_law_227 rfl).trans ?_
  exact q_cSD mt_L_law dL_law_228 rfl mt_L_parse rfl
theorem e_L_law_248 (sc : SC) (c0 : Nat) (p1 : Nat) (p2 : Nat) (p3 : Nat) (p4 : Nat) (x5 : Int32) (x6 : Int32) (x7 : Int32) (v8 : AV) (dl : DL) (h : AH) : Run sc n_L_law 248 [aC c0, aD p1, aD p2, aD p3, aD p4, aI x5, aI x6, aI x7, v8] dl [] h = some (.inl (some (aI (nI 0))), h) := by
  refine (s_go mt_L_law dL_law_248 rfl).trans ?_
  exact q_ret (c := (some (aI (nI 0)), h)) mt_L_law dL_law_249 rfl
theorem e_L_law_250 (sc : SC) (c0 : Nat) (p1 : Nat) (p2 : Nat) (p3 : Nat) (p4 : Nat) (x5 : Int32) (x6 : Int32) (x7 : Int32) (v8 : AV) (dl : DL) (h : AH) : Run sc n_L_law 250 [aC c0, aD p1, aD p2, aD p3, aD p4, aI x5, aI x6, aI x7, v8] dl [] h = Run sc n_L_law (if ¬ x6 = 0 then 267 else 255) [aC c0, aD p1, aD p2, aD p3, aD p4, aI x5, aI x6, aI x7, v8] dl [] h := by
  refine (s_go mt_L_law dL_law_250 rfl).trans ?_
  exact q_if mt_L_law dL_law_252 (fun _ _ _ _ => rfl) rfl
theorem e_L_law_255 (sc : SC) (c0 : Nat) (p1 : Nat) (p2 : Nat) (p3 : Nat) (p4 : Nat) (x5 : Int32) (x6 : Int32) (x7 : Int32) (v8 : AV) (dl : DL) (h : AH) : Run sc n_L_law 255 [aC c0, aD p1, aD p2, aD p3, aD p4, aI x5, aI x6, aI x7, v8] dl [] h = bO (ldL h p3 (nI 0)) (fun z => Run sc n_L_law 258 [aC c0, aD p1, aD p2, aD p3, aD p4, aI x5, aI x6, aI x7, v8] dl [aL z] h) := by
  refine (s_go mt_L_law dL_law_255 rfl).trans ?_
  refine (s_go mt_L_law dL_law_256 rfl).trans ?_
  exact q_laload mt_L_law dL_law_257
theorem e_L_law_265 (sc : SC) (c0 : Nat) (p1 : Nat) (p2 : Nat) (p3 : Nat) (p4 : Nat) (x5 : Int32) (x6 : Int32) (x7 : Int32) (v8 : AV) (dl : DL) (h : AH) : Run sc n_L_law 265 [aC c0, aD p1, aD p2, aD p3, aD p4, aI x5, aI x6, aI x7, v8] dl [] h = some (.inl (some (aI (nI 0))), h) := by
  refine (s_go mt_L_law dL_law_265 rfl).trans ?_
  exact q_ret (c := (some (aI (nI 0)), h)) mt_L_law dL_law_266 rfl
theorem e_L_law_267 (sc : SC) (c0 : Nat) (p1 : Nat) (p2 : Nat) (p3 : Nat) (p4 : Nat) (x5 : Int32) (x6 : Int32) (x7 : Int32) (v8 : AV) (dl : DL) (h : AH) : Run sc n_L_law 267 [aC c0, aD p1, aD p2, aD p3, aD p4, aI x5, aI x6, aI x7, v8] dl [] h = Run sc n_L_law 1606 [aC c0, aD p1, aD p2, aD p3, aD p4, aI x5, aI x6, aI x7, v8] dl [] h := by
  refine (s_go mt_L_law dL_law_267 rfl).trans ?_
  exact rfl
theorem e_L_law_270 (sc : SC) (c0 : Nat) (p1 : Nat) (p2 : Nat) (p3 : Nat) (p4 : Nat) (x5 : Int32) (v6 : AV) (v7 : AV) (v8 : AV) (dl : DL) (h : AH) : Run sc n_L_law 270 [aC c0, aD p1, aD p2, aD p3, aD p4, aI x5, v6, v7, v8] dl [] h = bI (rOK sc h (aD p1) 11 = true) (bC (Call sc n_X9_clear [aD p1] h) (fun v z => Run sc n_L_law 274 [aC c0, aD p1, aD p2, aD p3, aD p4, aI x5, v6, v7, v8] dl (v.toList ++ []) z) (fun E z => some (.inr E, z))) := by
  refine (s_go mt_L_law dL_law_270 rfl).trans ?_
  exact q_cV mt_L_law dL_law_271 rfl mt_X9_clear rfl rfl rfl
theorem e_L_law_281 (sc : SC) (c0 : Nat) (p1 : Nat) (p2 : Nat) (p3 : Nat) (p4 : Nat) (x5 : Int32) (v6 : AV) (v7 : AV) (v8 : AV) (dl : DL) (h : AH) : Run sc n_L_law 281 [aC c0, aD p1, aD p2, aD p3, aD p4, aI x5, v6, v7, v8] dl [] h = some (.inl (some (aI (nI 0))), h) := by
  refine (s_go mt_L_law dL_law_281 rfl).trans ?_
  exact q_ret (c := (some (aI (nI 0)), h)) mt_L_law dL_law_282 rfl
theorem e_L_law_283 (sc : SC) (c0 : Nat) (p1 : Nat) (p2 : Nat) (p3 : Nat) (p4 : Nat) (x5 : Int32) (v6 : AV) (v7 : AV) (v8 : AV) (dl : DL) (h : AH) : Run sc n_L_law 283 [aC c0, aD p1, aD p2, aD p3, aD p4, aI x5, v6, v7, v8] dl [] h = bI (rOK sc h (aD p1) 11 = true) (bC (Call sc n_X9_instructions [aD p1] h) (fun v z => Run sc n_L_law 287 [aC c0, aD p1, aD p2, aD p3, aD p4, aI x5, v6, v7, v8] dl (v.toList ++ []) z) (fun E z => some (.inr E, z))) := by
  refine (s_go mt_L_law dL_law_283 rfl).trans ?_
  exact q_cV mt_L_law dL_law_284 rfl mt_X9_instructions rfl rfl rfl
theorem e_L_law_294 (sc : SC) (c0 : Nat) (p1 : Nat) (p2 : Nat) (p3 : Nat) (p4 : Nat) (x5 : Int32) (v6 : AV) (v7 : AV) (v8 : AV) (dl : DL) (h : AH) : Run sc n_L_law 294 [aC c0, aD p1, aD p2, aD p3, aD p4, aI x5, v6, v7, v8] dl [] h = some (.inl (some (aI (nI 0))), h) := by
  refine (s_go mt_L_law dL_law_294 rfl).trans ?_
  exact q_ret (c := (some (aI (nI 0)), h)) mt_L_law dL_law_295 rfl
theorem e_L_law_296 (sc : SC) (c0 : Nat) (p1 : Nat) (p2 : Nat) (p3 : Nat) (p4 : Nat) (x5 : Int32) (v6 : AV) (v7 : AV) (v8 : AV) (dl : DL) (h : AH) : Run sc n_L_law 296 [aC c0, aD p1, aD p2, aD p3, aD p4, aI x5, v6, v7, v8] dl [] h = bO (ldI sc h (fun t => t == 0) (aC c0) (x5 + (nI 1))) (fun z => Run sc n_L_law 303 [aC c0, aD p1, aD p2, aD p3, aD p4, aI x5, v6, v7, v8] dl [aI z, aD p1] h) := by
  refine (s_go mt_L_law dL_law_296 rfl).trans ?_
  refine (s_go mt_L_law dL_law_297 rfl).trans ?_
  refine (s_go mt_L_law dL_law_298 rfl).trans ?_
  refine (s_go mt_L_law dL_law_300 rfl).trans ?_
  refine (s_go mt_L_law dL_law_301 rfl).trans ?_
  exact q_iaload mt_L_law dL_law_302
theorem e_L_law_342 (sc : SC) (c0 : Nat) (p1 : Nat) (p2 : Nat) (p3 : Nat) (p4 : Nat) (x5 : Int32) (x6 : Int32) (x7 : Int32) (v8 : AV) (dl : DL) (h : AH) : Run sc n_L_law 342 [aC c0, aD p1, aD p2, aD p3, aD p4, aI x5, aI x6, aI x7, v8] dl [] h = some (.inl (some (aI (nI 0))), h) := by
  refine (s_go mt_L_law dL_law_342 rfl).trans ?_
  exact q_ret (c := (some (aI (nI 0)), h)) mt_L_law dL_law_343 rfl
theorem e_L_law_344 (sc : SC) (c0 : Nat) (p1 : Nat) (p2 : Nat) (p3 : Nat) (p4 : Nat) (x5 : Int32) (x6 : Int32) (x7 : Int32) (v8 : AV) (dl : DL) (h : AH) : Run sc n_L_law 344 [aC c0, aD p1, aD p2, aD p3, aD p4, aI x5, aI x6, aI x7, v8] dl [] h = Run sc n_L_law (if ¬ x6 = 0 then 361 else 349) [aC c0, aD p1, aD p2, aD p3, aD p4, aI x5, aI x6, aI x7, v8] dl [] h := by
  refine (s_go mt_L_law dL_law_344 rfl).trans ?_
  exact q_if mt_L_law dL_law_346 (fun _ _ _ _ => rfl) rfl
theorem e_L_law_349 (sc : SC) (c0 : Nat) (p1 : Nat) (p2 : Nat) (p3 : Nat) (p4 : Nat) (x5 : Int32) (x6 : Int32) (x7 : Int32) (v8 : AV) (dl : DL) (h : AH) : Run sc n_L_law 349 [aC c0, aD p1, aD p2, aD p3, aD p4, aI x5, aI x6, aI x7, v8] dl [] h = bO (ldL h p3 (nI 0)) (fun z => Run sc n_L_law 352 [aC c0, aD p1, aD p2, aD p3, aD p4, aI x5, aI x6, aI x7, v8] dl [aL z] h) := by
  refine (s_go mt_L_law dL_law_349 rfl).trans ?_
  refine (s_go mt_L_law dL_law_350 rfl).trans ?_
  exact q_laload mt_L_law dL_law_351
theorem e_L_law_359 (sc : SC) (c0 : Nat) (p1 : Nat) (p2 : Nat) (p3 : Nat) (p4 : Nat) (x5 : Int32) (x6 : Int32) (x7 : Int32) (v8 : AV) (dl : DL) (h : AH) : Run sc n_L_law 359 [aC c0, aD p1, aD p2, aD p3, aD p4, aI x5, aI x6, aI x7, v8] dl [] h = some (.inl (some (aI (nI 0))), h) := by
  refine (s_go mt_L_law dL_law_359 rfl).trans ?_
  exact q_ret (c := (some (aI (nI 0)), h)) mt_L_law dL_law_360 rfl
theorem e_L_law_361 (sc : SC) (c0 : Nat) (p1 : Nat) (p2 : Nat) (p3 : Nat) (p4 : Nat) (x5 : Int32) (x6 : Int32) (x7 : Int32) (v8 : AV) (dl : DL) (h : AH) : Run sc n_L_law 361 [aC c0, aD p1, aD p2, aD p3, aD p4, aI x5, aI x6, aI x7, v8] dl [] h = Run sc n_L_law 1606 [aC c0, aD p1, aD p2, aD p3, aD p4, aI x5, aI x6, aI x7, v8] dl [] h := by
  refine (s_go mt_L_law dL_law_361 rfl).trans ?_
  exact rfl
theorem e_L_law_364 (sc : SC) (c0 : Nat) (p1 : Nat) (p2 : Nat) (p3 : Nat) (p4 : Nat) (x5 : Int32) (v6 : AV) (v7 : AV) (v8 : AV) (dl : DL) (h : AH) : Run sc n_L_law 364 [aC c0, aD p1, aD p2, aD p3, aD p4, aI x5, v6, v7, v8] dl [] h = bI (rOK sc h (aD p1) 11 = true) (bC (Call sc n_X9_expand [aD p1] h) (fun v z => Run sc n_L_law 368 [aC c0, aD p1, aD p2, aD p3, aD p4, aI x5, v6, v7, v8] dl (v.toList ++ []) z) (fun E z => some (.inr E, z))) := by
  refine (s_go mt_L_law dL_law_364 rfl).trans ?_
  exact q_cV mt_L_law dL_law_365 rfl mt_X9_expand rfl rfl rfl
theorem e_L_law_375 (sc : SC) (c0 : Nat) (p1 : Nat) (p2 : Nat) (p3 : Nat) (p4 : Nat) (x5 : Int32) (v6 : AV) (v7 : AV) (v8 : AV) (dl : DL) (h : AH) : Run sc n_L_law 375 [aC c0, aD p1, aD p2, aD p3, aD p4, aI x5, v6, v7, v8] dl [] h = some (.inl (some (aI (nI 0))), h) := by
  refine (s_go mt_L_law dL_law_375 rfl).trans ?_
  exact q_ret (c := (some (aI (nI 0)), h)) mt_L_law dL_law_376 rfl
theorem e_L_law_377 (sc : SC) (c0 : Nat) (p1 : Nat) (p2 : Nat) (p3 : Nat) (p4 : Nat) (x5 : Int32) (v6 : AV) (v7 : AV) (v8 : AV) (dl : DL) (h : AH) : Run sc n_L_law 377 [aC c0, aD p1, aD p2, aD p3, aD p4, aI x5, v6, v7, v8] dl [] h = bI (rOK sc h (aD p1) 11 = true) (bC (Call sc n_X9_entries [aD p1] h) (fun v z => Run sc n_L_law 381 [aC c0, aD p1, aD p2, aD p3, aD p4, aI x5, v6, v7, v8] dl (v.toList ++ []) z) (fun E z => some (.inr E, z))) := by
  refine (s_go mt_L_law dL_law_377 rfl).trans ?_
  exact q_cV mt_L_law dL_law_378 rfl mt_X9_entries rfl rfl rfl
theorem e_L_law_388 (sc : SC) (c0 : Nat) (p1 : Nat) (p2 : Nat) (p3 : Nat) (p4 : Nat) (x5 : Int32) (v6 : AV) (v7 : AV) (v8 : AV) (dl : DL) (h : AH) : Run sc n_L_law 388 [aC c0, aD p1, aD p2, aD p3, aD p4, aI x5, v6, v7, v8] dl [] h = some (.inl (some (aI (nI 0))), h) := by
  refine (s_go mt_L_law dL_law_388 rfl).trans ?_
  exact q_ret (c := (some (aI (nI 0)), h)) mt_L_law dL_law_389 rfl
theorem e_L_law_390 (sc : SC) (c0 : Nat) (p1 : Nat) (p2 : Nat) (p3 : Nat) (p4 : Nat) (x5 : Int32) (v6 : AV) (v7 : AV) (v8 : AV) (dl : DL) (h : AH) : Run sc n_L_law 390 [aC c0, aD p1, aD p2, aD p3, aD p4, aI x5, v6, v7, v8] dl [] h = bO (ldI sc h (fun t => t == 0) (aC c0) (x5 + (nI 1))) (fun z => Run sc n_L_law 397 [aC c0, aD p1, aD p2, aD p3, aD p4, aI x5, v6, v7, v8] dl [aI z, aD p1] h) := by
  refine (s_go mt_L_law dL_law_390 rfl).trans ?_
  refine (s_go mt_L_law dL_law_391 rfl).trans ?_
  refine (s_go mt_L_law dL_law_392 rfl).trans ?_
  refine (s_go mt_L_law dL_law_394 rfl).trans ?_
  refine (s_go mt_L_law dL_law_395 rfl).trans ?_
  exact q_iaload mt_L_law dL_law_396
theorem e_L_law_436 (sc : SC) (c0 : Nat) (p1 : Nat) (p2 : Nat) (p3 : Nat) (p4 : Nat) (x5 : Int32) (x6 : Int32) (x7 : Int32) (v8 : AV) (dl : DL) (h : AH) : Run sc n_L_law 436 [aC c0, aD p1, aD p2, aD p3, aD p4, aI x5, aI x6, aI x7, v8] dl [] h = some (.inl (some (aI (nI 0))), h) := by
  refine (s_go mt_L_law dL_law_436 rfl).trans ?_
  exact q_ret (c := (some (aI (nI 0)), h)) mt_L_law dL_law_437 rfl
theorem e_L_law_438 (sc : SC) (c0 : Nat) (p1 : Nat) (p2 : Nat) (p3 : Nat) (p4 : Nat) (x5 : Int32) (x6 : Int32) (x7 : Int32) (v8 : AV) (dl : DL) (h : AH) : Run sc n_L_law 438 [aC c0, aD p1, aD p2, aD p3, aD p4, aI x5, aI x6, aI x7, v8] dl [] h = Run sc n_L_law (if ¬ x6 = 0 then 455 else 443) [aC c0, aD p1, aD p2, aD p3, aD p4, aI x5, aI x6, aI x7, v8] dl [] h := by
  refine (s_go mt_L_law dL_law_438 rfl).trans ?_
  exact q_if mt_L_law dL_law_440 (fun _ _ _ _ => rfl) rfl
theorem e_L_law_443 (sc : SC) (c0 : Nat) (p1 : Nat) (p2 : Nat) (p3 : Nat) (p4 : Nat) (x5 : Int32) (x6 : Int32) (x7 : Int32) (v8 : AV) (dl : DL) (h : AH) : Run sc n_L_law 443 [aC c0, aD p1, aD p2, aD p3, aD p4, aI x5, aI x6, aI x7, v8] dl [] h = bO (ldL h p3 (nI 0)) (fun z => Run sc n_L_law 446 [aC c0, aD p1, aD p2, aD p3, aD p4, aI x5, aI x6, aI x7, v8] dl [aL z] h) := by
  refine (s_go mt_L_law dL_law_443 rfl).trans ?_
  refine (s_go mt_L_law dL_law_444 rfl).trans ?_
  exact q_laload mt_L_law dL_law_445
theorem e_L_law_453 (sc : SC) (c0 : Nat) (p1 : Nat) (p2 : Nat) (p3 : Nat) (p4 : Nat) (x5 : Int32) (x6 : Int32) (x7 : Int32) (v8 : AV) (dl : DL) (h : AH) : Run sc n_L_law 453 [aC c0, aD p1, aD p2, aD p3, aD p4, aI x5, aI x6, aI x7, v8] dl [] h = some (.inl (some (aI (nI 0))), h) := by
  refine (s_go mt_L_law dL_law_453 rfl).trans ?_
  exact q_ret (c := (some (aI (nI 0)), h)) mt_L_law dL_law_454 rfl
theorem e_L_law_455 (sc : SC) (c0 : Nat) (p1 : Nat) (p2 : Nat) (p3 : Nat) (p4 : Nat) (x5 : Int32) (x6 : Int32) (x7 : Int32) (v8 : AV) (dl : DL) (h : AH) : Run sc n_L_law 455 [aC c0, aD p1, aD p2, aD p3, aD p4, aI x5, aI x6, aI x7, v8] dl [] h = Run sc n_L_law 1606 [aC c0, aD p1, aD p2, aD p3, aD p4, aI x5, aI x6, aI x7, v8] dl [] h := by
  refine (s_go mt_L_law dL_law_455 rfl).trans ?_
  exact rfl
theorem e_L_law_458 (sc : SC) (c0 : Nat) (p1 : Nat) (p2 : Nat) (p3 : Nat) (p4 : Nat) (x5 : Int32) (v6 : AV) (v7 : AV) (v8 : AV) (dl : DL) (h : AH) : Run sc n_L_law 458 [aC c0, aD p1, aD p2, aD p3, aD p4, aI x5, v6, v7, v8] dl [] h = bO (ldI sc h (fun t => t == 0) (aC c0) (x5 + (nI 1))) (fun z => Run sc n_L_law 465 [aC c0, aD p1, aD p2, aD p3, aD p4, aI x5, v6, v7, v8] dl [aI z, aD p1] h) := by
  refine (s_go mt_L_law dL_law_458 rfl).trans ?_
  refine (s_go mt_L_law dL_law_459 rfl).trans ?_
  refine (s_go mt_L_law dL_law_460 rfl).trans ?_
  refine (s_go mt_L_law dL_law_462 rfl).trans ?_
  refine (s_go mt_L_law dL_law_463 rfl).trans ?_
  exact q_iaload mt_L_law dL_law_464
theorem e_L_law_492 (sc : SC) (c0 : Nat) (p1 : Nat) (p2 : Nat) (p3 : Nat) (p4 : Nat) (x5 : Int32) (x6 : Int32) (x7 : Int32) (v8 : AV) (dl : DL) (h : AH) : Run sc n_L_law 492 [aC c0, aD p1, aD p2, aD p3, aD p4, aI x5, aI x6, aI x7, v8] dl [] h = some (.inl (some (aI (nI 0))), h) := by
  refine (s_go mt_L_law dL_law_492 rfl).trans ?_
  exact q_ret (c := (some (aI (nI 0)), h)) mt_L_law dL_law_493 rfl
theorem e_L_law_494 (sc : SC) (c0 : Nat) (p1 : Nat) (p2 : Nat) (p3 : Nat) (p4 : Nat) (x5 : Int32) (x6 : Int32) (x7 : Int32) (v8 : AV) (dl : DL) (h : AH) : Run sc n_L_law 494 [aC c0, aD p1, aD p2, aD p3, aD p4, aI x5, aI x6, aI x7, v8] dl [] h = Run sc n_L_law (if ¬ x6 = 0 then 511 else 499) [aC c0, aD p1, aD p2, aD p3, aD p4, aI x5, aI x6, aI x7, v8] dl [] h := by
  refine (s_go mt_L_law dL_law_494 rfl).trans ?_
  exact q_if mt_L_law dL_law_496 (fun _ _ _ _ => rfl) rfl
theorem e_L_law_499 (sc : SC) (c0 : Nat) (p1 : Nat) (p2 : Nat) (p3 : Nat) (p4 : Nat) (x5 : Int32) (x6 : Int32) (x7 : Int32) (v8 : AV) (dl : DL) (h : AH) : Run sc n_L_law 499 [aC c0, aD p1, aD p2, aD p3, aD p4, aI x5, aI x6, aI x7, v8] dl [] h = bO (ldL h p3 (nI 0)) (fun z => Run sc n_L_law 502 [aC c0, aD p1, aD p2, aD p3, aD p4, aI x5, aI x6, aI x7, v8] dl [aL z] h) := by
  refine (s_go mt_L_law dL_law_499 rfl).trans ?_
  refine (s_go mt_L_law dL_law_500 rfl).trans ?_
  exact q_laload mt_L_law dL_law_501
theorem e_L_law_509 (sc : SC) (c0 : Nat) (p1 : Nat) (p2 : Nat) (p3 : Nat) (p4 : Nat) (x5 : Int32) (x6 : Int32) (x7 : Int32) (v8 : AV) (dl : DL) (h : AH) : Run sc n_L_law 509 [aC c0, aD p1, aD p2, aD p3, aD p4, aI x5, aI x6, aI x7, v8] dl [] h = some (.inl (some (aI (nI 0))), h) := by
  refine (s_go mt_L_law dL_law_509 rfl).trans ?_
  exact q_ret (c := (some (aI (nI 0)), h)) mt_L_law dL_law_510 rfl
theorem e_L_law_511 (sc : SC) (c0 : Nat) (p1 : Nat) (p2 : Nat) (p3 : Nat) (p4 : Nat) (x5 : Int32) (x6 : Int32) (x7 : Int32) (v8 : AV) (dl : DL) (h : AH) : Run sc n_L_law 511 [aC c0, aD p1, aD p2, aD p3, aD p4, aI x5, aI x6, aI x7, v8] dl [] h = Run sc n_L_law 1606 [aC c0, aD p1, aD p2, aD p3, aD p4, aI x5, aI x6, aI x7, v8] dl [] h := by
  refine (s_go mt_L_law dL_law_511 rfl).trans ?_
  exact rfl
theorem e_L_law_514 (sc : SC) (c0 : Nat) (p1 : Nat) (p2 : Nat) (p3 : Nat) (p4 : Nat) (x5 : Int32) (v6 : AV) (v7 : AV) (v8 : AV) (dl : DL) (h : AH) : Run sc n_L_law 514 [aC c0, aD p1, aD p2, aD p3, aD p4, aI x5, v6, v7, v8] dl [] h = bO (ldI sc h (fun t => t == 0) (aC c0) (x5 + (nI 1))) (fun z => Run sc n_L_law 521 [aC c0, aD p1, aD p2, aD p3, aD p4, aI x5, v6, v7, v8] dl [aI z, aD p1] h) := by
  refine (s_go mt_L_law dL_law_514 rfl).trans ?_
  refine (s_go mt_L_law dL_law_515 rfl).trans ?_
  refine (s_go mt_L_law dL_law_516 rfl).trans ?_
  refine (s_go mt_L_law dL_law_518 rfl).trans ?_
  refine (s_go mt_L_law dL_law_519 rfl).trans ?_
  exact q_iaload mt_L_law dL_law_520
theorem e_L_law_548 (sc : SC) (c0 : Nat) (p1 : Nat) (p2 : Nat) (p3 : Nat) (p4 : Nat) (x5 : Int32) (x6 : Int32) (x7 : Int32) (v8 : AV) (dl : DL) (h : AH) : Run sc n_L_law 548 [aC c0, aD p1, aD p2, aD p3, aD p4, aI x5, aI x6, aI x7, v8] dl [] h = some (.inl (some (aI (nI 0))), h) := by
  refine (s_go mt_L_law dL_law_548 rfl).trans ?_
  exact q_ret (c := (some (aI (nI 0)), h)) mt_L_law dL_law_549 rfl
theorem e_L_law_550 (sc : SC) (c0 : Nat) (p1 : Nat) (p2 : Nat) (p3 : Nat) (p4 : Nat) (x5 : Int32) (x6 : Int32) (x7 : Int32) (v8 : AV) (dl : DL) (h : AH) : Run sc n_L_law 550 [aC c0, aD p1, aD p2, aD p3, aD p4, aI x5, aI x6, aI x7, v8] dl [] h = Run sc n_L_law (if ¬ x6 = 0 then 567 else 555) [aC c0, aD p1, aD p2, aD p3, aD p4, aI x5, aI x6, aI x7, v8] dl [] h := by
  refine (s_go mt_L_law dL_law_550 rfl).trans ?_
  exact q_if mt_L_law dL_law_552 (fun _ _ _ _ => rfl) rfl
theorem e_L_law_555 (sc : SC) (c0 : Nat) (p1 : Nat) (p2 : Nat) (p3 : Nat) (p4 : Nat) (x5 : Int32) (x6 : Int32) (x7 : Int32) (v8 : AV) (dl : DL) (h : AH) : Run sc n_L_law 555 [aC c0, aD p1, aD p2, aD p3, aD p4, aI x5, aI x6, aI x7, v8] dl [] h = bO (ldL h p3 (nI 0)) (fun z => Run sc n_L_law 558 [aC c0, aD p1, aD p2, aD p3, aD p4, aI x5, aI x6, aI x7, v8] dl [aL z] h) := by
  refine (s_go mt_L_law dL_law_555 rfl).trans ?_
  refine (s_go mt_L_law dL_law_556 rfl).trans ?_
  exact q_laload mt_L_law dL_law_557
theorem e_L_law_565 (sc : SC) (c0 : Nat) (p1 : Nat) (p2 : Nat) (p3 : Nat) (p4 : Nat) (x5 : Int32) (x6 : Int32) (x7 : Int32) (v8 : AV) (dl : DL) (h : AH) : Run sc n_L_law 565 [aC c0, aD p1, aD p2, aD p3, aD p4, aI x5, aI x6, aI x7, v8] dl [] h = some (.inl (some (aI (nI 0))), h) := by
  refine (s_go mt_L_law dL_law_565 rfl).trans ?_
  exact q_ret (c := (some (aI (nI 0)), h)) mt_L_law dL_law_566 rfl
theorem e_L_law_567 (sc : SC) (c0 : Nat) (p1 : Nat) (p2 : Nat) (p3 : Nat) (p4 : Nat) (x5 : Int32) (x6 : Int32) (x7 : Int32) (v8 : AV) (dl : DL) (h : AH) : Run sc n_L_law 567 [aC c0, aD p1, aD p2, aD p3, aD p4, aI x5, aI x6, aI x7, v8] dl [] h = Run sc n_L_law 1606 [aC c0, aD p1, aD p2, aD p3, aD p4, aI x5, aI x6, aI x7, v8] dl [] h := by
  refine (s_go mt_L_law dL_law_567 rfl).trans ?_
  exact rfl
theorem e_L_law_570 (sc : SC) (c0 : Nat) (p1 : Nat) (p2 : Nat) (p3 : Nat) (p4 : Nat) (x5 : Int32) (v6 : AV) (v7 : AV) (v8 : AV) (dl : DL) (h : AH) : Run sc n_L_law 570 [aC c0, aD p1, aD p2, aD p3, aD p4, aI x5, v6, v7, v8] dl [] h = bO (ldI sc h (fun t => t == 0) (aC c0) (x5 + (nI 1))) (fun z => Run sc n_L_law 577 [aC c0, aD p1, aD p2, aD p3, aD p4, aI x5, v6, v7, v8] dl [aI z, aD p1] h) := by
  refine (s_go mt_L_law dL_law_570 rfl).trans ?_
  refine (s_go mt_L_law dL_law_571 rfl).trans ?_
  refine (s_go mt_L_law dL_law_572 rfl).trans ?_
  refine (s_go mt_L_law dL_law_574 rfl).trans ?_
  refine (s_go mt_L_law dL_law_575 rfl).trans ?_
  exact q_iaload mt_L_law dL_law_576
theorem e_L_law_616 (sc : SC) (c0 : Nat) (p1 : Nat) (p2 : Nat) (p3 : Nat) (p4 : Nat) (x5 : Int32) (x6 : Int32) (x7 : Int32) (v8 : AV) (dl : DL) (h : AH) : Run sc n_L_law 616 [aC c0, aD p1, aD p2, aD p3, aD p4, aI x5, aI x6, aI x7, v8] dl [] h = some (.inl (some (aI (nI 0))), h) := by
  refine (s_go mt_L_law dL_law_616 rfl).trans ?_
  exact q_ret (c := (some (aI (nI 0)), h)) mt_L_law dL_law_617 rfl
theorem e_L_law_618 (sc : SC) (c0 : Nat) (p1 : Nat) (p2 : Nat) (p3 : Nat) (p4 : Nat) (x5 : Int32) (x6 : Int32) (x7 : Int32) (v8 : AV) (dl : DL) (h : AH) : Run sc n_L_law 618 [aC c0, aD p1, aD p2, aD p3, aD p4, aI x5, aI x6, aI x7, v8] dl [] h = Run sc n_L_law (if ¬ x6 = 0 then 642 else 623) [aC c0, aD p1, aD p2, aD p3, aD p4, aI x5, aI x6, aI x7, v8] dl [] h := by
  refine (s_go mt_L_law dL_law_618 rfl).trans ?_
  exact q_if mt_L_law dL_law_620 (fun _ _ _ _ => rfl) rfl
theorem e_L_law_623 (sc : SC) (c0 : Nat) (p1 : Nat) (p2 : Nat) (p3 : Nat) (p4 : Nat) (x5 : Int32) (x6 : Int32) (x7 : Int32) (v8 : AV) (dl : DL) (h : AH) : Run sc n_L_law 623 [aC c0, aD p1, aD p2, aD p3, aD p4, aI x5, aI x6, aI x7, v8] dl [] h = bO (ldL h p3 (nI 0)) (fun z => Run sc n_L_law 626 [aC c0, aD p1, aD p2, aD p3, aD p4, aI x5, aI x6, aI x7, v8] dl [aL z] h) := by
  refine (s_go mt_L_law dL_law_623 rfl).trans ?_
  refine (s_go mt_L_law dL_law_624 rfl).trans ?_
  exact q_laload mt_L_law dL_law_625
theorem e_L_law_631 (sc : SC) (c0 : Nat) (p1 : Nat) (p2 : Nat) (p3 : Nat) (p4 : Nat) (x5 : Int32) (x6 : Int32) (x7 : Int32) (v8 : AV) (l0 : Int64) (dl : DL) (h : AH) : Run sc n_L_law 631 [aC c0, aD p1, aD p2, aD p3, aD p4, aI x5, aI x6, aI x7, v8] dl [aL l0] h = Run sc n_L_law 636 [aC c0, aD p1, aD p2, aD p3, aD p4, aI x5, aI x6, aI x7, v8] dl [aL 1, aL l0] h := by
  refine (s_go mt_L_law dL_law_631 rfl).trans ?_
  refine (s_go mt_L_law dL_law_632 rfl).trans ?_
  exact rfl
theorem e_L_law_635 (sc : SC) (c0 : Nat) (p1 : Nat) (p2 : Nat) (p3 : Nat) (p4 : Nat) (x5 : Int32) (x6 : Int32) (x7 : Int32) (v8 : AV) (l0 : Int64) (dl : DL) (h : AH) : Run sc n_L_law 635 [aC c0, aD p1, aD p2, aD p3, aD p4, aI x5, aI x6, aI x7, v8] dl [aL l0] h = Run sc n_L_law 636 [aC c0, aD p1, aD p2, aD p3, aD p4, aI x5, aI x6, aI x7, v8] dl [aL 0, aL l0] h := by
  refine (s_go mt_L_law dL_law_635 rfl).trans ?_
  exact rfl
theorem e_L_law_636 (sc : SC) (c0 : Nat) (p1 : Nat) (p2 : Nat) (p3 : Nat) (p4 : Nat) (x5 : Int32) (x6 : Int32) (x7 : Int32) (v8 : AV) (l0 : Int64) (l1 : Int64) (dl : DL) (h : AH) : Run sc n_L_law 636 [aC c0, aD p1, aD p2, aD p3, aD p4, aI x5, aI x6, aI x7, v8] dl [aL l1, aL l0] h = Run sc n_L_law (if (if l0 < l1 then (-1 : Int32) else if l0 = l1 then 0 else 1) = 0 then 642 else 640) [aC c0, aD p1, aD p2, aD p3, aD p4, aI x5, aI x6, aI x7, v8] dl [] h := by
  refine (s_go mt_L_law dL_law_636 rfl).trans ?_
  exact q_if mt_L_law dL_law_637 (fun _ _ _ _ => rfl) rfl
theorem e_L_law_640 (sc : SC) (c0 : Nat) (p1 : Nat) (p2 : Nat) (p3 : Nat) (p4 : Nat) (x5 : Int32) (x6 : Int32) (x7 : Int32) (v8 : AV) (dl : DL) (h : AH) : Run sc n_L_law 640 [aC c0, aD p1, aD p2, aD p3, aD p4, aI x5, aI x6, aI x7, v8] dl [] h = some (.inl (some (aI (nI 0))), h) := by
  refine (s_go mt_L_law dL_law_640 rfl).trans ?_
  exact q_ret (c := (some (aI (nI 0)), h)) mt_L_law dL_law_641 rfl
theorem e_L_law_642 (sc : SC) (c0 : Nat) (p1 : Nat) (p2 : Nat) (p3 : Nat) (p4 : Nat) (x5 : Int32) (x6 : Int32) (x7 : Int32) (v8 : AV) (dl : DL) (h : AH) : Run sc n_L_law 642 [aC c0, aD p1, aD p2, aD p3, aD p4, aI x5, aI x6, aI x7, v8] dl [] h = Run sc n_L_law 1606 [aC c0, aD p1, aD p2, aD p3, aD p4, aI x5, aI x6, aI x7, v8] dl [] h := by
  refine (s_go mt_L_law dL_law_642 rfl).trans ?_
  exact rfl
theorem e_L_law_645 (sc : SC) (c0 : Nat) (p1 : Nat) (p2 : Nat) (p3 : Nat) (p4 : Nat) (x5 : Int32) (v6 : AV) (v7 : AV) (v8 : AV) (dl : DL) (h : AH) : Run sc n_L_law 645 [aC c0, aD p1, aD p2, aD p3, aD p4, aI x5, v6, v7, v8] dl [] h = bO (ldI sc h (fun t => t == 0) (aC c0) (x5 + (nI 1))) (fun z => Run sc n_L_law 652 [aC c0, aD p1, aD p2, aD p3, aD p4, aI x5, v6, v7, v8] dl [aI z, aD p1] h) := by
  refine (s_go mt_L_law dL_law_645 rfl).trans ?_
  refine (s_go mt_L_law dL_law_646 rfl).trans ?_
  refine (s_go mt_L_law dL_law_647 rfl).trans ?_
  refine (s_go mt_L_law dL_law_649 rfl).trans ?_
  refine (s_go mt_L_law dL_law_650 rfl).trans ?_
  exact q_iaload mt_L_law dL_law_651
theorem e_L_law_691 (sc : SC) (c0 : Nat) (p1 : Nat) (p2 : Nat) (p3 : Nat) (p4 : Nat) (x5 : Int32) (x6 : Int32) (x7 : Int32) (v8 : AV) (dl : DL) (h : AH) : Run sc n_L_law 691 [aC c0, aD p1, aD p2, aD p3, aD p4, aI x5, aI x6, aI x7, v8] dl [] h = some (.inl (some (aI (nI 0))), h) := by
  refine (s_go mt_L_law dL_law_691 rfl).trans ?_
  exact q_ret (c := (some (aI (nI 0)), h)) mt_L_law dL_law_692 rfl
theorem e_L_law_693 (sc : SC) (c0 : Nat) (p1 : Nat) (p2 : Nat) (p3 : Nat) (p4 : Nat) (x5 : Int32) (x6 : Int32) (x7 : Int32) (v8 : AV) (dl : DL) (h : AH) : Run sc n_L_law 693 [aC c0, aD p1, aD p2, aD p3, aD p4, aI x5, aI x6, aI x7, v8] dl [] h = Run sc n_L_law (if ¬ x6 = 0 then 710 else 698) [aC c0, aD p1, aD p2, aD p3, aD p4, aI x5, aI x6, aI x7, v8] dl [] h := by
  refine (s_go mt_L_law dL_law_693 rfl).trans ?_
  exact q_if mt_L_law dL_law_695 (fun _ _ _ _ => rfl) rfl
theorem e_L_law_698 (sc : SC) (c0 : Nat) (p1 : Nat) (p2 : Nat) (p3 : Nat) (p4 : Nat) (x5 : Int32) (x6 : Int32) (x7 : Int32) (v8 : AV) (dl : DL) (h : AH) : Run sc n_L_law 698 [aC c0, aD p1, aD p2, aD p3, aD p4, aI x5, aI x6, aI x7, v8] dl [] h = bO (ldL h p3 (nI 0)) (fun z => Run sc n_L_law 701 [aC c0, aD p1, aD p2, aD p3, aD p4, aI x5, aI x6, aI x7, v8] dl [aL z] h) := by
  refine (s_go mt_L_law dL_law_698 rfl).trans ?_
  refine (s_go mt_L_law dL_law_699 rfl).trans ?_
  exact q_laload mt_L_law dL_law_700
theorem e_L_law_708 (sc : SC) (c0 : Nat) (p1 : Nat) (p2 : Nat) (p3 : Nat) (p4 : Nat) (x5 : Int32) (x6 : Int32) (x7 : Int32) (v8 : AV) (dl : DL) (h : AH) : Run sc n_L_law 708 [aC c0, aD p1, aD p2, aD p3, aD p4, aI x5, aI x6, aI x7, v8] dl [] h = some (.inl (some (aI (nI 0))), h) := by
  refine (s_go mt_L_law dL_law_708 rfl).trans ?_
  exact q_ret (c := (some (aI (nI 0)), h)) mt_L_law dL_law_709 rfl
theorem e_L_law_710 (sc : SC) (c0 : Nat) (p1 : Nat) (p2 : Nat) (p3 : Nat) (p4 : Nat) (x5 : Int32) (x6 : Int32) (x7 : Int32) (v8 : AV) (dl : DL) (h : AH) : Run sc n_L_law 710 [aC c0, aD p1, aD p2, aD p3, aD p4, aI x5, aI x6, aI x7, v8] dl [] h = Run sc n_L_law 1606 [aC c0, aD p1, aD p2, aD p3, aD p4, aI x5, aI x6, aI x7, v8] dl [] h := by
  refine (s_go mt_L_law dL_law_710 rfl).trans ?_
  exact rfl
theorem e_L_law_713 (sc : SC) (c0 : Nat) (p1 : Nat) (p2 : Nat) (p3 : Nat) (p4 : Nat) (x5 : Int32) (v6 : AV) (v7 : AV) (v8 : AV) (dl : DL) (h : AH) : Run sc n_L_law 713 [aC c0, aD p1, aD p2, aD p3, aD p4, aI x5, v6, v7, v8] dl [] h = bO (ldI sc h (fun t => t == 0) (aC c0) (x5 + (nI 1))) (fun z => Run sc n_L_law 720 [aC c0, aD p1, aD p2, aD p3, aD p4, aI x5, v6, v7, v8] dl [aI z, aD p1] h) := by
  refine (s_go mt_L_law dL_law_713 rfl).trans ?_
  refine (s_go mt_L_law dL_law_714 rfl).trans ?_
  refine (s_go mt_L_law dL_law_715 rfl).trans ?_
  refine (s_go mt_L_law dL_law_717 rfl).trans ?_
  refine (s_go mt_L_law dL_law_718 rfl).trans ?_
  exact q_iaload mt_L_law dL_law_719
theorem e_L_law_759 (sc : SC) (c0 : Nat) (p1 : Nat) (p2 : Nat) (p3 : Nat) (p4 : Nat) (x5 : Int32) (x6 : Int32) (x7 : Int32) (v8 : AV) (dl : DL) (h : AH) : Run sc n_L_law 759 [aC c0, aD p1, aD p2, aD p3, aD p4, aI x5, aI x6, aI x7, v8] dl [] h = some (.inl (some (aI (nI 0))), h) := by
  refine (s_go mt_L_law dL_law_759 rfl).trans ?_
  exact q_ret (c := (some (aI (nI 0)), h)) mt_L_law dL_law_760 rfl
theorem e_L_law_761 (sc : SC) (c0 : Nat) (p1 : Nat) (p2 : Nat) (p3 : Nat) (p4 : Nat) (x5 : Int32) (x6 : Int32) (x7 : Int32) (v8 : AV) (dl : DL) (h : AH) : Run sc n_L_law 761 [aC c0, aD p1, aD p2, aD p3, aD p4, aI x5, aI x6, aI x7, v8] dl [] h = Run sc n_L_law (if ¬ x6 = 0 then 778 else 766) [aC c0, aD p1, aD p2, aD p3, aD p4, aI x5, aI x6, aI x7, v8] dl [] h := by
  refine (s_go mt_L_law dL_law_761 rfl).trans ?_
  exact q_if mt_L_law dL_law_763 (fun _ _ _ _ => rfl) rfl
theorem e_L_law_766 (sc : SC) (c0 : Nat) (p1 : Nat) (p2 : Nat) (p3 : Nat) (p4 : Nat) (x5 : Int32) (x6 : Int32) (x7 : Int32) (v8 : AV) (dl : DL) (h : AH) : Run sc n_L_law 766 [aC c0, aD p1, aD p2, aD p3, aD p4, aI x5, aI x6, aI x7, v8] dl [] h = bO (ldL h p3 (nI 0)) (fun z => Run sc n_L_law 769 [aC c0, aD p1, aD p2, aD p3, aD p4, aI x5, aI x6, aI x7, v8] dl [aL z] h) := by
  refine (s_go mt_L_law dL_law_766 rfl).trans ?_
  refine (s_go mt_L_law dL_law_767 rfl).trans ?_
  exact q_laload mt_L_law dL_law_768
theorem e_L_law_776 (sc : SC) (c0 : Nat) (p1 : Nat) (p2 : Nat) (p3 : Nat) (p4 : Nat) (x5 : Int32) (x6 : Int32) (x7 : Int32) (v8 : AV) (dl : DL) (h : AH) : Run sc n_L_law 776 [aC c0, aD p1, aD p2, aD p3, aD p4, aI x5, aI x6, aI x7, v8] dl [] h = some (.inl (some (aI (nI 0))), h) := by
  refine (s_go mt_L_law dL_law_776 rfl).trans ?_
  exact q_ret (c := (some (aI (nI 0)), h)) mt_L_law dL_law_777 rfl
theorem e_L_law_778 (sc : SC) (c0 : Nat) (p1 : Nat) (p2 : Nat) (p3 : Nat) (p4 : Nat) (x5 : Int32) (x6 : Int32) (x7 : Int32) (v8 : AV) (dl : DL) (h : AH) : Run sc n_L_law 778 [aC c0, aD p1, aD p2, aD p3, aD p4, aI x5, aI x6, aI x7, v8] dl [] h = Run sc n_L_law 1606 [aC c0, aD p1, aD p2, aD p3, aD p4, aI x5, aI x6, aI x7, v8] dl [] h := by
  refine (s_go mt_L_law dL_law_778 rfl).trans ?_
  exact rfl
theorem e_L_law_781 (sc : SC) (c0 : Nat) (p1 : Nat) (p2 : Nat) (p3 : Nat) (p4 : Nat) (x5 : Int32) (v6 : AV) (v7 : AV) (v8 : AV) (dl : DL) (h : AH) : Run sc n_L_law 781 [aC c0, aD p1, aD p2, aD p3, aD p4, aI x5, v6, v7, v8] dl [] h = bO (ldI sc h (fun t => t == 0) (aC c0) (x5 + (nI 1))) (fun z => Run sc n_L_law 788 [aC c0, aD p1, aD p2, aD p3, aD p4, aI x5, v6, v7, v8] dl [aI z, aD p1] h) := by
  refine (s_go mt_L_law dL_law_781 rfl).trans ?_
  refine (s_go mt_L_law dL_law_782 rfl).trans ?_
  refine (s_go mt_L_law dL_law_783 rfl).trans ?_
  refine (s_go mt_L_law dL_law_785 rfl).trans ?_
  refine (s_go mt_L_law dL_law_786 rfl).trans ?_
  exact q_iaload mt_L_law dL_law_787
theorem e_L_law_827 (sc : SC) (c0 : Nat) (p1 : Nat) (p2 : Nat) (p3 : Nat) (p4 : Nat) (x5 : Int32) (x6 : Int32) (x7 : Int32) (v8 : AV) (dl : DL) (h : AH) : Run sc n_L_law 827 [aC c0, aD p1, aD p2, aD p3, aD p4, aI x5, aI x6, aI x7, v8] dl [] h = some (.inl (some (aI (nI 0))), h) := by
  refine (s_go mt_L_law dL_law_827 rfl).trans ?_
  exact q_ret (c := (some (aI (nI 0)), h)) mt_L_law dL_law_828 rfl
theorem e_L_law_829 (sc : SC) (c0 : Nat) (p1 : Nat) (p2 : Nat) (p3 : Nat) (p4 : Nat) (x5 : Int32) (x6 : Int32) (x7 : Int32) (v8 : AV) (dl : DL) (h : AH) : Run sc n_L_law 829 [aC c0, aD p1, aD p2, aD p3, aD p4, aI x5, aI x6, aI x7, v8] dl [] h = Run sc n_L_law (if ¬ x6 = 0 then 846 else 834) [aC c0, aD p1, aD p2, aD p3, aD p4, aI x5, aI x6, aI x7, v8] dl [] h := by
  refine (s_go mt_L_law dL_law_829 rfl).trans ?_
  exact q_if mt_L_law dL_law_831 (fun _ _ _ _ => rfl) rfl
theorem e_L_law_834 (sc : SC) (c0 : Nat) (p1 : Nat) (p2 : Nat) (p3 : Nat) (p4 : Nat) (x5 : Int32) (x6 : Int32) (x7 : Int32) (v8 : AV) (dl : DL) (h : AH) : Run sc n_L_law 834 [aC c0, aD p1, aD p2, aD p3, aD p4, aI x5, aI x6, aI x7, v8] dl [] h = bO (ldL h p3 (nI 0)) (fun z => Run sc n_L_law 837 [aC c0, aD p1, aD p2, aD p3, aD p4, aI x5, aI x6, aI x7, v8] dl [aL z] h) := by
  refine (s_go mt_L_law dL_law_834 rfl).trans ?_
  refine (s_go mt_L_law dL_law_835 rfl).trans ?_
  exact q_laload mt_L_law dL_law_836
theorem e_L_law_844 (sc : SC) (c0 : Nat) (p1 : Nat) (p2 : Nat) (p3 : Nat) (p4 : Nat) (x5 : Int32) (x6 : Int32) (x7 : Int32) (v8 : AV) (dl : DL) (h : AH) : Run sc n_L_law 844 [aC c0, aD p1, aD p2, aD p3, aD p4, aI x5, aI x6, aI x7, v8] dl [] h = some (.inl (some (aI (nI 0))), h) := by
  refine (s_go mt_L_law dL_law_844 rfl).trans ?_
  exact q_ret (c := (some (aI (nI 0)), h)) mt_L_law dL_law_845 rfl
theorem e_L_law_846 (sc : SC) (c0 : Nat) (p1 : Nat) (p2 : Nat) (p3 : Nat) (p4 : Nat) (x5 : Int32) (x6 : Int32) (x7 : Int32) (v8 : AV) (dl : DL) (h : AH) : Run sc n_L_law 846 [aC c0, aD p1, aD p2, aD p3, aD p4, aI x5, aI x6, aI x7, v8] dl [] h = Run sc n_L_law 1606 [aC c0, aD p1, aD p2, aD p3, aD p4, aI x5, aI x6, aI x7, v8] dl [] h := by
  refine (s_go mt_L_law dL_law_846 rfl).trans ?_
  exact rfl
theorem e_L_law_849 (sc : SC) (c0 : Nat) (p1 : Nat) (p2 : Nat) (p3 : Nat) (p4 : Nat) (x5 : Int32) (v6 : AV) (v7 : AV) (v8 : AV) (dl : DL) (h : AH) : Run sc n_L_law 849 [aC c0, aD p1, aD p2, aD p3, aD p4, aI x5, v6, v7, v8] dl [] h = bC (Call sc n_L_undo [aD p1, aD p3] h) (fun v z => Run sc n_L_law 854 [aC c0, aD p1, aD p2, aD p3, aD p4, aI x5, v6, v7, v8] dl (v.toList ++ []) z) (fun _ _ => none) := by
  refine (s_go mt_L_law dL_law_849 rfl).trans ?_
  refine (s_go mt_L_law dL_law_850 rfl).trans ?_
  exact q_cSD mt_L_law dL_law_851 rfl mt_L_undo rfl
theorem e_L_law_871 (sc : SC) (c0 : Nat) (p1 : Nat) (p2 : Nat) (p3 : Nat) (p4 : Nat) (x5 : Int32) (x6 : Int32) (x7 : Int32) (v8 : AV) (dl : DL) (h : AH) : Run sc n_L_law 871 [aC c0, aD p1, aD p2, aD p3, aD p4, aI x5, aI x6, aI x7, v8] dl [] h = some (.inl (some (aI (nI 0))), h) := by
  refine (s_go mt_L_law dL_law_871 rfl).trans ?_
  exact q_ret (c := (some (aI (nI 0)), h)) mt_L_law dL_law_872 rfl
theorem e_L_law_873 (sc : SC) (c0 : Nat) (p1 : Nat) (p2 : Nat) (p3 : Nat) (p4 : Nat) (x5 : Int32) (x6 : Int32) (x7 : Int32) (v8 : AV) (dl : DL) (h : AH) : Run sc n_L_law 873 [aC c0, aD p1, aD p2, aD p3, aD p4, aI x5, aI x6, aI x7, v8] dl [] h = Run sc n_L_law (if ¬ x6 = 0 then 890 else 878) [aC c0, aD p1, aD p2, aD p3, aD p4, aI x5, aI x6, aI x7, v8] dl [] h := by
  refine (s_go mt_L_law dL_law_873 rfl).trans ?_
  exact q_if mt_L_law dL_law_875 (fun _ _ _ _ => rfl) rfl
theorem e_L_law_878 (sc : SC) (c0 : Nat) (p1 : Nat) (p2 : Nat) (p3 : Nat) (p4 : Nat) (x5 : Int32) (x6 : Int32) (x7 : Int32) (v8 : AV) (dl : DL) (h : AH) : Run sc n_L_law 878 [aC c0, aD p1, aD p2, aD p3, aD p4, aI x5, aI x6, aI x7, v8] dl [] h = bO (ldL h p3 (nI 0)) (fun z => Run sc n_L_law 881 [aC c0, aD p1, aD p2, aD p3, aD p4, aI x5, aI x6, aI x7, v8] dl [aL z] h) := by
  refine (s_go mt_L_law dL_law_878 rfl).trans ?_
  refine (s_go mt_L_law dL_law_879 rfl).trans ?_
  exact q_laload mt_L_law dL_law_880
theorem e_L_law_888 (sc : SC) (c0 : Nat) (p1 : Nat) (p2 : Nat) (p3 : Nat) (p4 : Nat) (x5 : Int32) (x6 : Int32) (x7 : Int32) (v8 : AV) (dl : DL) (h : AH) : Run sc n_L_law 888 [aC c0, aD p1, aD p2, aD p3, aD p4, aI x5, aI x6, aI x7, v8] dl [] h = some (.inl (some (aI (nI 0))), h) := by
  refine (s_go mt_L_law dL_law_888 rfl).trans ?_
  exact q_ret (c := (some (aI (nI 0)), h)) mt_L_law dL_law_889 rfl
theorem e_L_law_890 (sc : SC) (c0 : Nat) (p1 : Nat) (p2 : Nat) (p3 : Nat) (p4 : Nat) (x5 : Int32) (x6 : Int32) (x7 : Int32) (v8 : AV) (dl : DL) (h : AH) : Run sc n_L_law 890 [aC c0, aD p1, aD p2, aD p3, aD p4, aI x5, aI x6, aI x7, v8] dl [] h = Run sc n_L_law 1606 [aC c0, aD p1, aD p2, aD p3, aD p4, aI x5, aI x6, aI x7, v8] dl [] h := by
  refine (s_go mt_L_law dL_law_890 rfl).trans ?_
  exact rfl
theorem e_L_law_893 (sc : SC) (c0 : Nat) (p1 : Nat) (p2 : Nat) (p3 : Nat) (p4 : Nat) (x5 : Int32) (v6 : AV) (v7 : AV) (v8 : AV) (dl : DL) (h : AH) : Run sc n_L_law 893 [aC c0, aD p1, aD p2, aD p3, aD p4, aI x5, v6, v7, v8] dl [] h = bI (rOK sc h (aD p1) 11 = true) (bC (Call sc n_X9_write [aD p1] h) (fun v z => Run sc n_L_law 897 [aC c0, aD p1, aD p2, aD p3, aD p4, aI x5, v6, v7, v8] dl (v.toList ++ []) z) (fun E z => some (.inr E, z))) := by
  refine (s_go mt_L_law dL_law_893 rfl).trans ?_
  exact q_cV mt_L_law dL_law_894 rfl mt_X9_write rfl rfl rfl
theorem e_L_law_904 (sc : SC) (c0 : Nat) (p1 : Nat) (p2 : Nat) (p3 : Nat) (p4 : Nat) (x5 : Int32) (v6 : AV) (v7 : AV) (v8 : AV) (dl : DL) (h : AH) : Run sc n_L_law 904 [aC c0, aD p1, aD p2, aD p3, aD p4, aI x5, v6, v7, v8] dl [] h = some (.inl (some (aI (nI 0))), h) := by
  refine (s_go mt_L_law dL_law_904 rfl).trans ?_
  exact q_ret (c := (some (aI (nI 0)), h)) mt_L_law dL_law_905 rfl
theorem e_L_law_906 (sc : SC) (c0 : Nat) (p1 : Nat) (p2 : Nat) (p3 : Nat) (p4 : Nat) (x5 : Int32) (v6 : AV) (v7 : AV) (v8 : AV) (dl : DL) (h : AH) : Run sc n_L_law 906 [aC c0, aD p1, aD p2, aD p3, aD p4, aI x5, v6, v7, v8] dl [] h = bO (ldI sc h (fun t => t == 0) (aC c0) (x5 + (nI 1))) (fun z => Run sc n_L_law 913 [aC c0, aD p1, aD p2, aD p3, aD p4, aI x5, v6, v7, v8] dl [aI z, aD p1] h) := by
  refine (s_go mt_L_law dL_law_906 rfl).trans ?_
  refine (s_go mt_L_law dL_law_907 rfl).trans ?_
  refine (s_go mt_L_law dL_law_908 rfl).trans ?_
  refine (s_go mt_L_law dL_law_910 rfl).trans ?_
  refine (s_go mt_L_law dL_law_911 rfl).trans ?_
  exact q_iaload mt_L_law dL_law_912
theorem e_L_law_940 (sc : SC) (c0 : Nat) (p1 : Nat) (p2 : Nat) (p3 : Nat) (p4 : Nat) (x5 : Int32) (x6 : Int32) (x7 : Int32) (v8 : AV) (dl : DL) (h : AH) : Run sc n_L_law 940 [aC c0, aD p1, aD p2, aD p3, aD p4, aI x5, aI x6, aI x7, v8] dl [] h = some (.inl (some (aI (nI 0))), h) := by
  refine (s_go mt_L_law dL_law_940 rfl).trans ?_
  exact q_ret (c := (some (aI (nI 0)), h)) mt_L_law dL_law_941 rfl
theorem e_L_law_942 (sc : SC) (c0 : Nat) (p1 : Nat) (p2 : Nat) (p3 : Nat) (p4 : Nat) (x5 : Int32) (x6 : Int32) (x7 : Int32) (v8 : AV) (dl : DL) (h : AH) : Run sc n_L_law 942 [aC c0, aD p1, aD p2, aD p3, aD p4, aI x5, aI x6, aI x7, v8] dl [] h = Run sc n_L_law (if ¬ x6 = 0 then 959 else 947) [aC c0, aD p1, aD p2, aD p3, aD p4, aI x5, aI x6, aI x7, v8] dl [] h := by
  refine (s_go mt_L_law dL_law_942 rfl).trans ?_
  exact q_if mt_L_law dL_law_944 (fun _ _ _ _ => rfl) rfl
theorem e_L_law_947 (sc : SC) (c0 : Nat) (p1 : Nat) (p2 : Nat) (p3 : Nat) (p4 : Nat) (x5 : Int32) (x6 : Int32) (x7 : Int32) (v8 : AV) (dl : DL) (h : AH) : Run sc n_L_law 947 [aC c0, aD p1, aD p2, aD p3, aD p4, aI x5, aI x6, aI x7, v8] dl [] h = bO (ldL h p3 (nI 0)) (fun z => Run sc n_L_law 950 [aC c0, aD p1, aD p2, aD p3, aD p4, aI x5, aI x6, aI x7, v8] dl [aL z] h) := by
  refine (s_go mt_L_law dL_law_947 rfl).trans ?_
  refine (s_go mt_L_law dL_law_948 rfl).trans ?_
  exact q_laload mt_L_law dL_law_949
theorem e_L_law_957 (sc : SC) (c0 : Nat) (p1 : Nat) (p2 : Nat) (p3 : Nat) (p4 : Nat) (x5 : Int32) (x6 : Int32) (x7 : Int32) (v8 : AV) (dl : DL) (h : AH) : Run sc n_L_law 957 [aC c0, aD p1, aD p2, aD p3, aD p4, aI x5, aI x6, aI x7, v8] dl [] h = some (.inl (some (aI (nI 0))), h) := by
  refine (s_go mt_L_law dL_law_957 rfl).trans ?_
  exact q_ret (c := (some (aI (nI 0)), h)) mt_L_law dL_law_958 rfl
theorem e_L_law_959 (sc : SC) (c0 : Nat) (p1 : Nat) (p2 : Nat) (p3 : Nat) (p4 : Nat) (x5 : Int32) (x6 : Int32) (x7 : Int32) (v8 : AV) (dl : DL) (h : AH) : Run sc n_L_law 959 [aC c0, aD p1, aD p2, aD p3, aD p4, aI x5, aI x6, aI x7, v8] dl [] h = Run sc n_L_law 1606 [aC c0, aD p1, aD p2, aD p3, aD p4, aI x5, aI x6, aI x7, v8] dl [] h := by
  refine (s_go mt_L_law dL_law_959 rfl).trans ?_
  exact rfl
theorem e_L_law_962 (sc : SC) (c0 : Nat) (p1 : Nat) (p2 : Nat) (p3 : Nat) (p4 : Nat) (x5 : Int32) (v6 : AV) (v7 : AV) (v8 : AV) (dl : DL) (h : AH) : Run sc n_L_law 962 [aC c0, aD p1, aD p2, aD p3, aD p4, aI x5, v6, v7, v8] dl [] h = bO (ldI sc h (fun t => t == 0) (aC c0) (x5 + (nI 1))) (fun z => Run sc n_L_law 969 [aC c0, aD p1, aD p2, aD p3, aD p4, aI x5, v6, v7, v8] dl [aI z, aD p1] h) := by
  refine (s_go mt_L_law dL_law_962 rfl).trans ?_
  refine (s_go mt_L_law dL_law_963 rfl).trans ?_
  refine (s_go mt_L_law dL_law_964 rfl).trans ?_
  refine (s_go mt_L_law dL_law_966 rfl).trans ?_
  refine (s_go mt_L_law dL_law_967 rfl).trans ?_
  exact q_iaload mt_L_law dL_law_968
theorem e_L_law_972 (sc : SC) (c0 : Nat) (p1 : Nat) (p2 : Nat) (p3 : Nat) (p4 : Nat) (x5 : Int32) (v6 : AV) (v7 : AV) (v8 : AV) (q0 : Nat) (dl : DL) (h : AH) : Run sc n_L_law 972 [aC c0, aD p1, aD p2, aD p3, aD p4, aI x5, v6, v7, v8] dl [aD q0] h = Run sc n_L_law 977 [aC c0, aD p1, aD p2, aD p3, aD p4, aI x5, v6, v7, v8] dl [aI (nI 1), aD q0] h := by
  refine (s_go mt_L_law dL_law_972 rfl).trans ?_
  refine (s_go mt_L_law dL_law_973 rfl).trans ?_
  exact rfl
theorem e_L_law_976 (sc : SC) (c0 : Nat) (p1 : Nat) (p2 : Nat) (p3 : Nat) (p4 : Nat) (x5 : Int32) (v6 : AV) (v7 : AV) (v8 : AV) (q0 : Nat) (dl : DL) (h : AH) : Run sc n_L_law 976 [aC c0, aD p1, aD p2, aD p3, aD p4, aI x5, v6, v7, v8] dl [aD q0] h = Run sc n_L_law 977 [aC c0, aD p1, aD p2, aD p3, aD p4, aI x5, v6, v7, v8] dl [aI (nI 0), aD q0] h := by
  refine (s_go mt_L_law dL_law_976 rfl).trans ?_
  exact rfl
theorem e_L_law_977 (sc : SC) (c0 : Nat) (p1 : Nat) (p2 : Nat) (p3 : Nat) (p4 : Nat) (x5 : Int32) (v6 : AV) (v7 : AV) (v8 : AV) (q0 : Nat) (y1 : Int32) (dl : DL) (h : AH) : Run sc n_L_law 977 [aC c0, aD p1, aD p2, aD p3, aD p4, aI x5, v6, v7, v8] dl [aI y1, aD q0] h = bO (ldI sc h (fun t => t == 0) (aC c0) (x5 + (nI 2))) (fun z => Run sc n_L_law 983 [aC c0, aD p1, aD p2, aD p3, aD p4, aI x5, v6, v7, v8] dl [aI z, aI y1, aD q0] h) := by
  refine (s_go mt_L_law dL_law_977 rfl).trans ?_
  refine (s_go mt_L_law dL_law_978 rfl).trans ?_
  refine (s_go mt_L_law dL_law_980 rfl).trans ?_
  refine (s_go mt_L_law dL_law_981 rfl).trans ?_
  exact q_iaload mt_L_law dL_law_982
theorem e_L_law_1005 (sc : SC) (c0 : Nat) (p1 : Nat) (p2 : Nat) (p3 : Nat) (p4 : Nat) (x5 : Int32) (x6 : Int32) (v7 : AV) (v8 : AV) (q0 : Nat) (dl : DL) (h : AH) : Run sc n_L_law 1005 [aC c0, aD p1, aD p2, aD p3, aD p4, aI x5, aI x6, v7, v8] dl [aD q0] h = Run sc n_L_law 1010 [aC c0, aD p1, aD p2, aD p3, aD p4, aI x5, aI x6, v7, v8] dl [aI (nI 1), aD q0] h := by
  refine (s_go mt_L_law dL_law_1005 rfl).trans ?_
  refine (s_go mt_L_law dL_law_1006 rfl).trans ?_
  exact rfl
theorem e_L_law_1009 (sc : SC) (c0 : Nat) (p1 : Nat) (p2 : Nat) (p3 : Nat) (p4 : Nat) (x5 : Int32) (x6 : Int32) (v7 : AV) (v8 : AV) (q0 : Nat) (dl : DL) (h : AH) : Run sc n_L_law 1009 [aC c0, aD p1, aD p2, aD p3, aD p4, aI x5, aI x6, v7, v8] dl [aD q0] h = Run sc n_L_law 1010 [aC c0, aD p1, aD p2, aD p3, aD p4, aI x5, aI x6, v7, v8] dl [aI (nI 0), aD q0] h := by
  refine (s_go mt_L_law dL_law_1009 rfl).trans ?_
  exact rfl
theorem e_L_law_1010 (sc : SC) (c0 : Nat) (p1 : Nat) (p2 : Nat) (p3 : Nat) (p4 : Nat) (x5 : Int32) (x6 : Int32) (v7 : AV) (v8 : AV) (q0 : Nat) (y1 : Int32) (dl : DL) (h : AH) : Run sc n_L_law 1010 [aC c0, aD p1, aD p2, aD p3, aD p4, aI x5, aI x6, v7, v8] dl [aI y1, aD q0] h = bO (ldI sc h (fun t => t == 0) (aC c0) (x5 + (nI 2))) (fun z => Run sc n_L_law 1016 [aC c0, aD p1, aD p2, aD p3, aD p4, aI x5, aI x6, v7, v8] dl [aI z, aI y1, aD q0] h) := by
  refine (s_go mt_L_law dL_law_1010 rfl).trans ?_
  refine (s_go mt_L_law dL_law_1011 rfl).trans ?_
  refine (s_go mt_L_law dL_law_1013 rfl).trans ?_
  refine (s_go mt_L_law dL_law_1014 rfl).trans ?_
  exact q_iaload mt_L_law dL_law_1015
theorem e_L_law_1036 (sc : SC) (c0 : Nat) (p1 : Nat) (p2 : Nat) (p3 : Nat) (p4 : Nat) (x5 : Int32) (x6 : Int32) (x7 : Int32) (v8 : AV) (dl : DL) (h : AH) : Run sc n_L_law 1036 [aC c0, aD p1, aD p2, aD p3, aD p4, aI x5, aI x6, aI x7, v8] dl [] h = some (.inl (some (aI (nI 0))), h) := by
  refine (s_go mt_L_law dL_law_1036 rfl).trans ?_
  exact q_ret (c := (some (aI (nI 0)), h)) mt_L_law dL_law_1037 rfl
theorem e_L_law_1038 (sc : SC) (c0 : Nat) (p1 : Nat) (p2 : Nat) (p3 : Nat) (p4 : Nat) (x5 : Int32) (x6 : Int32) (x7 : Int32) (v8 : AV) (dl : DL) (h : AH) : Run sc n_L_law 1038 [aC c0, aD p1, aD p2, aD p3, aD p4, aI x5, aI x6, aI x7, v8] dl [] h = Run sc n_L_law (if ¬ x6 = 0 then 1055 else 1043) [aC c0, aD p1, aD p2, aD p3, aD p4, aI x5, aI x6, aI x7, v8] dl [] h := by
  refine (s_go mt_L_law dL_law_1038 rfl).trans ?_
  exact q_if mt_L_law dL_law_1040 (fun _ _ _ _ => rfl) rfl
theorem e_L_law_1043 (sc : SC) (c0 : Nat) (p1 : Nat) (p2 : Nat) (p3 : Nat) (p4 : Nat) (x5 : Int32) (x6 : Int32) (x7 : Int32) (v8 : AV) (dl : DL) (h : AH) : Run sc n_L_law 1043 [aC c0, aD p1, aD p2, aD p3, aD p4, aI x5, aI x6, aI x7, v8] dl [] h = bO (ldL h p3 (nI 0)) (fun z => Run sc n_L_law 1046 [aC c0, aD p1, aD p2, aD p3, aD p4, aI x5, aI x6, aI x7, v8] dl [aL z] h) := by
  refine (s_go mt_L_law dL_law_1043 rfl).trans ?_
  refine (s_go mt_L_law dL_law_1044 rfl).trans ?_
  exact q_laload mt_L_law dL_law_1045
theorem e_L_law_1053 (sc : SC) (c0 : Nat) (p1 : Nat) (p2 : Nat) (p3 : Nat) (p4 : Nat) (x5 : Int32) (x6 : Int32) (x7 : Int32) (v8 : AV) (dl : DL) (h : AH) : Run sc n_L_law 1053 [aC c0, aD p1, aD p2, aD p3, aD p4, aI x5, aI x6, aI x7, v8] dl [] h = some (.inl (some (aI (nI 0))), h) := by
  refine (s_go mt_L_law dL_law_1053 rfl).trans ?_
  exact q_ret (c := (some (aI (nI 0)), h)) mt_L_law dL_law_1054 rfl
theorem e_L_law_1055 (sc : SC) (c0 : Nat) (p1 : Nat) (p2 : Nat) (p3 : Nat) (p4 : Nat) (x5 : Int32) (x6 : Int32) (x7 : Int32) (v8 : AV) (dl : DL) (h : AH) : Run sc n_L_law 1055 [aC c0, aD p1, aD p2, aD p3, aD p4, aI x5, aI x6, aI x7, v8] dl [] h = Run sc n_L_law 1606 [aC c0, aD p1, aD p2, aD p3, aD p4, aI x5, aI x6, aI x7, v8] dl [] h := by
  refine (s_go mt_L_law dL_law_1055 rfl).trans ?_
  exact rfl
theorem e_L_law_1058 (sc : SC) (c0 : Nat) (p1 : Nat) (p2 : Nat) (p3 : Nat) (p4 : Nat) (x5 : Int32) (v6 : AV) (v7 : AV) (v8 : AV) (dl : DL) (h : AH) : Run sc n_L_law 1058 [aC c0, aD p1, aD p2, aD p3, aD p4, aI x5, v6, v7, v8] dl [] h = bO (ldI sc h (fun t => t == 0) (aC c0) (x5 + (nI 1))) (fun z => Run sc n_L_law 1065 [aC c0, aD p1, aD p2, aD p3, aD p4, aI x5, v6, v7, v8] dl [aI z, aD p1] h) := by
  refine (s_go mt_L_law dL_law_1058 rfl).trans ?_
  refine (s_go mt_L_law dL_law_1059 rfl).trans ?_
  refine (s_go mt_L_law dL_law_1060 rfl).trans ?_
  refine (s_go mt_L_law dL_law_1062 rfl).trans ?_
  refine (s_go mt_L_law dL_law_1063 rfl).trans ?_
  exact q_iaload mt_L_law dL_law_1064
theorem e_L_law_1068 (sc : SC) (c0 : Nat) (p1 : Nat) (p2 : Nat) (p3 : Nat) (p4 : Nat) (x5 : Int32) (v6 : AV) (v7 : AV) (v8 : AV) (q0 : Nat) (dl : DL) (h : AH) : Run sc n_L_law 1068 [aC c0, aD p1, aD p2, aD p3, aD p4, aI x5, v6, v7, v8] dl [aD q0] h = Run sc n_L_law 1073 [aC c0, aD p1, aD p2, aD p3, aD p4, aI x5, v6, v7, v8] dl [aI (nI 1), aD q0] h := by
  refine (s_go mt_L_law dL_law_1068 rfl).trans ?_
  refine (s_go mt_L_law dL_law_1069 rfl).trans ?_
  exact rfl
theorem e_L_law_1072 (sc : SC) (c0 : Nat) (p1 : Nat) (p2 : Nat) (p3 : Nat) (p4 : Nat) (x5 : Int32) (v6 : AV) (v7 : AV) (v8 : AV) (q0 : Nat) (dl : DL) (h : AH) : Run sc n_L_law 1072 [aC c0, aD p1, aD p2, aD p3, aD p4, aI x5, v6, v7, v8] dl [aD q0] h = Run sc n_L_law 1073 [aC c0, aD p1, aD p2, aD p3, aD p4, aI x5, v6, v7, v8] dl [aI (nI 0), aD q0] h := by
  refine (s_go mt_L_law dL_law_1072 rfl).trans ?_
  exact rfl
theorem e_L_law_1073 (sc : SC) (c0 : Nat) (p1 : Nat) (p2 : Nat) (p3 : Nat) (p4 : Nat) (x5 : Int32) (v6 : AV) (v7 : AV) (v8 : AV) (q0 : Nat) (y1 : Int32) (dl : DL) (h : AH) : Run sc n_L_law 1073 [aC c0, aD p1, aD p2, aD p3, aD p4, aI x5, v6, v7, v8] dl [aI y1, aD q0] h = bO (ldI sc h (fun t => t == 0) (aC c0) (x5 + (nI 2))) (fun z => Run sc n_L_law 1079 [aC c0, aD p1, aD p2, aD p3, aD p4, aI x5, v6, v7, v8] dl [aI z, aI y1, aD q0] h) := by
  refine (s_go mt_L_law dL_law_1073 rfl).trans ?_
  refine (s_go mt_L_law dL_law_1074 rfl).trans ?_
  refine (s_go mt_L_law dL_law_1076 rfl).trans ?_
  refine (s_go mt_L_law dL_law_1077 rfl).trans ?_
  exact q_iaload mt_L_law dL_law_1078
theorem e_L_law_1095 (sc : SC) (c0 : Nat) (p1 : Nat) (p2 : Nat) (p3 : Nat) (p4 : Nat) (x5 : Int32) (x6 : Int32) (v7 : AV) (v8 : AV) (q0 : Nat) (dl : DL) (h : AH) : Run sc n_L_law 1095 [aC c0, aD p1, aD p2, aD p3, aD p4, aI x5, aI x6, v7, v8] dl [aD q0] h = Run sc n_L_law 1100 [aC c0, aD p1, aD p2, aD p3, aD p4, aI x5, aI x6, v7, v8] dl [aI (nI 1), aD q0] h := by
  refine (s_go mt_L_law dL_law_1095 rfl).trans ?_
  refine (s_go mt_L_law dL_law_1096 rfl).trans ?_
  exact rfl
theorem e_L_law_1099 (sc : SC) (c0 : Nat) (p1 : Nat) (p2 : Nat) (p3 : Nat) (p4 : Nat) (x5 : Int32) (x6 : Int32) (v7 : AV) (v8 : AV) (q0 : Nat) (dl : DL) (h : AH) : Run sc n_L_law 1099 [aC c0, aD p1, aD p2, aD p3, aD p4, aI x5, aI x6, v7, v8] dl [aD q0] h = Run sc n_L_law 1100 [aC c0, aD p1, aD p2, aD p3, aD p4, aI x5, aI x6, v7, v8] dl [aI (nI 0), aD q0] h := by
  refine (s_go mt_L_law dL_law_1099 rfl).trans ?_
  exact rfl
theorem e_L_law_1100 (sc : SC) (c0 : Nat) (p1 : Nat) (p2 : Nat) (p3 : Nat) (p4 : Nat) (x5 : Int32) (x6 : Int32) (v7 : AV) (v8 : AV) (q0 : Nat) (y1 : Int32) (dl : DL) (h : AH) : Run sc n_L_law 1100 [aC c0, aD p1, aD p2, aD p3, aD p4, aI x5, aI x6, v7, v8] dl [aI y1, aD q0] h = bO (ldI sc h (fun t => t == 0) (aC c0) (x5 + (nI 2))) (fun z => Run sc n_L_law 1106 [aC c0, aD p1, aD p2, aD p3, aD p4, aI x5, aI x6, v7, v8] dl [aI z, aI y1, aD q0] h) := by
  refine (s_go mt_L_law dL_law_1100 rfl).trans ?_
  refine (s_go mt_L_law dL_law_1101 rfl).trans ?_
  refine (s_go mt_L_law dL_law_1103 rfl).trans ?_
  refine (s_go mt_L_law dL_law_1104 rfl).trans ?_
  exact q_iaload mt_L_law dL_law_1105
theorem e_L_law_1120 (sc : SC) (c0 : Nat) (p1 : Nat) (p2 : Nat) (p3 : Nat) (p4 : Nat) (x5 : Int32) (x6 : Int32) (x7 : Int32) (v8 : AV) (dl : DL) (h : AH) : Run sc n_L_law 1120 [aC c0, aD p1, aD p2, aD p3, aD p4, aI x5, aI x6, aI x7, v8] dl [] h = some (.inl (some (aI (nI 0))), h) := by
  refine (s_go mt_L_law dL_law_1120 rfl).trans ?_
  exact q_ret (c := (some (aI (nI 0)), h)) mt_L_law dL_law_1121 rfl
theorem e_L_law_1122 (sc : SC) (c0 : Nat) (p1 : Nat) (p2 : Nat) (p3 : Nat) (p4 : Nat) (x5 : Int32) (x6 : Int32) (x7 : Int32) (v8 : AV) (dl : DL) (h : AH) : Run sc n_L_law 1122 [aC c0, aD p1, aD p2, aD p3, aD p4, aI x5, aI x6, aI x7, v8] dl [] h = Run sc n_L_law (if ¬ x6 = 0 then 1139 else 1127) [aC c0, aD p1, aD p2, aD p3, aD p4, aI x5, aI x6, aI x7, v8] dl [] h := by
  refine (s_go mt_L_law dL_law_1122 rfl).trans ?_
  exact q_if mt_L_law dL_law_1124 (fun _ _ _ _ => rfl) rfl
theorem e_L_law_1127 (sc : SC) (c0 : Nat) (p1 : Nat) (p2 : Nat) (p3 : Nat) (p4 : Nat) (x5 : Int32) (x6 : Int32) (x7 : Int32) (v8 : AV) (dl : DL) (h : AH) : Run sc n_L_law 1127 [aC c0, aD p1, aD p2, aD p3, aD p4, aI x5, aI x6, aI x7, v8] dl [] h = bO (ldL h p3 (nI 0)) (fun z => Run sc n_L_law 1130 [aC c0, aD p1, aD p2, aD p3, aD p4, aI x5, aI x6, aI x7, v8] dl [aL z] h) := by
  refine (s_go mt_L_law dL_law_1127 rfl).trans ?_
  refine (s_go mt_L_law dL_law_1128 rfl).trans ?_
  exact q_laload mt_L_law dL_law_1129
theorem e_L_law_1137 (sc : SC) (c0 : Nat) (p1 : Nat) (p2 : Nat) (p3 : Nat) (p4 : Nat) (x5 : Int32) (x6 : Int32) (x7 : Int32) (v8 : AV) (dl : DL) (h : AH) : Run sc n_L_law 1137 [aC c0, aD p1, aD p2, aD p3, aD p4, aI x5, aI x6, aI x7, v8] dl [] h = some (.inl (some (aI (nI 0))), h) := by
  refine (s_go mt_L_law dL_law_1137 rfl).trans ?_
  exact q_ret (c := (some (aI (nI 0)), h)) mt_L_law dL_law_1138 rfl
theorem e_L_law_1139 (sc : SC) (c0 : Nat) (p1 : Nat) (p2 : Nat) (p3 : Nat) (p4 : Nat) (x5 : Int32) (x6 : Int32) (x7 : Int32) (v8 : AV) (dl : DL) (h : AH) : Run sc n_L_law 1139 [aC c0, aD p1, aD p2, aD p3, aD p4, aI x5, aI x6, aI x7, v8] dl [] h = Run sc n_L_law 1606 [aC c0, aD p1, aD p2, aD p3, aD p4, aI x5, aI x6, aI x7, v8] dl [] h := by
  refine (s_go mt_L_law dL_law_1139 rfl).trans ?_
  exact rfl
theorem e_L_law_1142 (sc : SC) (c0 : Nat) (p1 : Nat) (p2 : Nat) (p3 : Nat) (p4 : Nat) (x5 : Int32) (v6 : AV) (v7 : AV) (v8 : AV) (dl : DL) (h : AH) : Run sc n_L_law 1142 [aC c0, aD p1, aD p2, aD p3, aD p4, aI x5, v6, v7, v8] dl [] h = bO (ldI sc h (fun t => t == 0) (aC c0) (x5 + (nI 1))) (fun z => Run sc n_L_law 1149 [aC c0, aD p1, aD p2, aD p3, aD p4, aI x5, v6, v7, v8] dl [aI z, aD p1] h) := by
  refine (s_go mt_L_law dL_law_1142 rfl).trans ?_
  refine (s_go mt_L_law dL_law_1143 rfl).trans ?_
  refine (s_go mt_L_law dL_law_1144 rfl).trans ?_
  refine (s_go mt_L_law dL_law_1146 rfl).trans ?_
  refine (s_go mt_L_law dL_law_1147 rfl).trans ?_
  exact q_iaload mt_L_law dL_law_1148
theorem e_L_law_1152 (sc : SC) (c0 : Nat) (p1 : Nat) (p2 : Nat) (p3 : Nat) (p4 : Nat) (x5 : Int32) (v6 : AV) (v7 : AV) (v8 : AV) (q0 : Nat) (dl : DL) (h : AH) : Run sc n_L_law 1152 [aC c0, aD p1, aD p2, aD p3, aD p4, aI x5, v6, v7, v8] dl [aD q0] h = Run sc n_L_law 1157 [aC c0, aD p1, aD p2, aD p3, aD p4, aI x5, v6, v7, v8] dl [aI (nI 1), aD q0] h := by
  refine (s_go mt_L_law dL_law_1152 rfl).trans ?_
  refine (s_go mt_L_law dL_law_1153 rfl).trans ?_
  exact rfl
theorem e_L_law_1156 (sc : SC) (c0 : Nat) (p1 : Nat) (p2 : Nat) (p3 : Nat) (p4 : Nat) (x5 : Int32) (v6 : AV) (v7 : AV) (v8 : AV) (q0 : Nat) (dl : DL) (h : AH) : Run sc n_L_law 1156 [aC c0, aD p1, aD p2, aD p3, aD p4, aI x5, v6, v7, v8] dl [aD q0] h = Run sc n_L_law 1157 [aC c0, aD p1, aD p2, aD p3, aD p4, aI x5, v6, v7, v8] dl [aI (nI 0), aD q0] h := by
  refine (s_go mt_L_law dL_law_1156 rfl).trans ?_
  exact rfl
theorem e_L_law_1157 (sc : SC) (c0 : Nat) (p1 : Nat) (p2 : Nat) (p3 : Nat) (p4 : Nat) (x5 : Int32) (v6 : AV) (v7 : AV) (v8 : AV) (q0 : Nat) (y1 : Int32) (dl : DL) (h : AH) : Run sc n_L_law 1157 [aC c0, aD p1, aD p2, aD p3, aD p4, aI x5, v6, v7, v8] dl [aI y1, aD q0] h = bO (ldI sc h (fun t => t == 0) (aC c0) (x5 + (nI 2))) (fun z => Run sc n_L_law 1163 [aC c0, aD p1, aD p2, aD p3, aD p4, aI x5, v6, v7, v8] dl [aI z, aI y1, aD q0] h) := by
  refine (s_go mt_L_law dL_law_1157 rfl).trans ?_
  refine (s_go mt_L_law dL_law_1158 rfl).trans ?_
  refine (s_go mt_L_law dL_law_1160 rfl).trans ?_
  refine (s_go mt_L_law dL_law_1161 rfl).trans ?_
  exact q_iaload mt_L_law dL_law_1162
theorem e_L_law_1179 (sc : SC) (c0 : Nat) (p1 : Nat) (p2 : Nat) (p3 : Nat) (p4 : Nat) (x5 : Int32) (x6 : Int32) (v7 : AV) (v8 : AV) (q0 : Nat) (dl : DL) (h : AH) : Run sc n_L_law 1179 [aC c0, aD p1, aD p2, aD p3, aD p4, aI x5, aI x6, v7, v8] dl [aD q0] h = Run sc n_L_law 1184 [aC c0, aD p1, aD p2, aD p3, aD p4, aI x5, aI x6, v7, v8] dl [aI (nI 1), aD q0] h := by
  refine (s_go mt_L_law dL_law_1179 rfl).trans ?_
  refine (s_go mt_L_law dL_law_1180 rfl).trans ?_
  exact rfl
theorem e_L_law_1183 (sc : SC) (c0 : Nat) (p1 : Nat) (p2 : Nat) (p3 : Nat) (p4 : Nat) (x5 : Int32) (x6 : Int32) (v7 : AV) (v8 : AV) (q0 : Nat) (dl : DL) (h : AH) : Run sc n_L_law 1183 [aC c0, aD p1, aD p2, aD p3, aD p4, aI x5, aI x6, v7, v8] dl [aD q0] h = Run sc n_L_law 1184 [aC c0, aD p1, aD p2, aD p3, aD p4, aI x5, aI x6, v7, v8] dl [aI (nI 0), aD q0] h := by
  refine (s_go mt_L_law dL_law_1183 rfl).trans ?_
  exact rfl
theorem e_L_law_1184 (sc : SC) (c0 : Nat) (p1 : Nat) (p2 : Nat) (p3 : Nat) (p4 : Nat) (x5 : Int32) (x6 : Int32) (v7 : AV) (v8 : AV) (q0 : Nat) (y1 : Int32) (dl : DL) (h : AH) : Run sc n_L_law 1184 [aC c0, aD p1, aD p2, aD p3, aD p4, aI x5, aI x6, v7, v8] dl [aI y1, aD q0] h = bO (ldI sc h (fun t => t == 0) (aC c0) (x5 + (nI 2))) (fun z => Run sc n_L_law 1190 [aC c0, aD p1, aD p2, aD p3, aD p4, aI x5, aI x6, v7, v8] dl [aI z, aI y1, aD q0] h) := by
  refine (s_go mt_L_law dL_law_1184 rfl).trans ?_
  refine (s_go mt_L_law dL_law_1185 rfl).trans ?_
  refine (s_go mt_L_law dL_law_1187 rfl).trans ?_
  refine (s_go mt_L_law dL_law_1188 rfl).trans ?_
  exact q_iaload mt_L_law dL_law_1189
theorem e_L_law_1204 (sc : SC) (c0 : Nat) (p1 : Nat) (p2 : Nat) (p3 : Nat) (p4 : Nat) (x5 : Int32) (x6 : Int32) (x7 : Int32) (v8 : AV) (dl : DL) (h : AH) : Run sc n_L_law 1204 [aC c0, aD p1, aD p2, aD p3, aD p4, aI x5, aI x6, aI x7, v8] dl [] h = some (.inl (some (aI (nI 0))), h) := by
  refine (s_go mt_L_law dL_law_1204 rfl).trans ?_
  exact q_ret (c := (some (aI (nI 0)), h)) mt_L_law dL_law_1205 rfl
theorem e_L_law_1206 (sc : SC) (c0 : Nat) (p1 : Nat) (p2 : Nat) (p3 : Nat) (p4 : Nat) (x5 : Int32) (x6 : Int32) (x7 : Int32) (v8 : AV) (dl : DL) (h : AH) : Run sc n_L_law 1206 [aC c0, aD p1, aD p2, aD p3, aD p4, aI x5, aI x6, aI x7, v8] dl [] h = Run sc n_L_law (if ¬ x6 = 0 then 1223 else 1211) [aC c0, aD p1, aD p2, aD p3, aD p4, aI x5, aI x6, aI x7, v8] dl [] h := by
  refine (s_go mt_L_law dL_law_1206 rfl).trans ?_
  exact q_if mt_L_law dL_law_1208 (fun _ _ _ _ => rfl) rfl
theorem e_L_law_1211 (sc : SC) (c0 : Nat) (p1 : Nat) (p2 : Nat) (p3 : Nat) (p4 : Nat) (x5 : Int32) (x6 : Int32) (x7 : Int32) (v8 : AV) (dl : DL) (h : AH) : Run sc n_L_law 1211 [aC c0, aD p1, aD p2, aD p3, aD p4, aI x5, aI x6, aI x7, v8] dl [] h = bO (ldL h p3 (nI 0)) (fun z => Run sc n_L_law 1214 [aC c0, aD p1, aD p2, aD p3, aD p4, aI x5, aI x6, aI x7, v8] dl [aL z] h) := by
  refine (s_go mt_L_law dL_law_1211 rfl).trans ?_
  refine (s_go mt_L_law dL_law_1212 rfl).trans ?_
  exact q_laload mt_L_law dL_law_1213
theorem e_L_law_1221 (sc : SC) (c0 : Nat) (p1 : Nat) (p2 : Nat) (p3 : Nat) (p4 : Nat) (x5 : Int32) (x6 : Int32) (x7 : Int32) (v8 : AV) (dl : DL) (h : AH) : Run sc n_L_law 1221 [aC c0, aD p1, aD p2, aD p3, aD p4, aI x5, aI x6, aI x7, v8] dl [] h = some (.inl (some (aI (nI 0))), h) := by
  refine (s_go mt_L_law dL_law_1221 rfl).trans ?_
  exact q_ret (c := (some (aI (nI 0)), h)) mt_L_law dL_law_1222 rfl
theorem e_L_law_1223 (sc : SC) (c0 : Nat) (p1 : Nat) (p2 : Nat) (p3 : Nat) (p4 : Nat) (x5 : Int32) (x6 : Int32) (x7 : Int32) (v8 : AV) (dl : DL) (h : AH) : Run sc n_L_law 1223 [aC c0, aD p1, aD p2, aD p3, aD p4, aI x5, aI x6, aI x7, v8] dl [] h = Run sc n_L_law 1606 [aC c0, aD p1, aD p2, aD p3, aD p4, aI x5, aI x6, aI x7, v8] dl [] h := by
  refine (s_go mt_L_law dL_law_1223 rfl).trans ?_
  exact rfl
theorem e_L_law_1226 (sc : SC) (c0 : Nat) (p1 : Nat) (p2 : Nat) (p3 : Nat) (p4 : Nat) (x5 : Int32) (v6 : AV) (v7 : AV) (v8 : AV) (dl : DL) (h : AH) : Run sc n_L_law 1226 [aC c0, aD p1, aD p2, aD p3, aD p4, aI x5, v6, v7, v8] dl [] h = bC (Call sc n_L_outputs [aD p1, aD p3] h) (fun v z => Run sc n_L_law 1231 [aC c0, aD p1, aD p2, aD p3, aD p4, aI x5, v6, v7, v8] dl (v.toList ++ []) z) (fun _ _ => none) := by
  refine (s_go mt_L_law dL_law_1226 rfl).trans ?_
  refine (s_go mt_L_law dL_law_1227 rfl).trans ?_
  exact q_cSD mt_L_law dL_law_1228 rfl mt_L_outputs rfl
theorem e_L_law_1248 (sc : SC) (c0 : Nat) (p1 : Nat) (p2 : Nat) (p3 : Nat) (p4 : Nat) (x5 : Int32) (x6 : Int32) (x7 : Int32) (v8 : AV) (dl : DL) (h : AH) : Run sc n_L_law 1248 [aC c0, aD p1, aD p2, aD p3, aD p4, aI x5, aI x6, aI x7, v8] dl [] h = some (.inl (some (aI (nI 0))), h) := by
  refine (s_go mt_L_law dL_law_1248 rfl).trans ?_
  exact q_ret (c := (some (aI (nI 0)), h)) mt_L_law dL_law_1249 rfl
theorem e_L_law_1250 (sc : SC) (c0 : Nat) (p1 : Nat) (p2 : Nat) (p3 : Nat) (p4 : Nat) (x5 : Int32) (x6 : Int32) (x7 : Int32) (v8 : AV) (dl : DL) (h : AH) : Run sc n_L_law 1250 [aC c0, aD p1, aD p2, aD p3, aD p4, aI x5, aI x6, aI x7, v8] dl [] h = Run sc n_L_law (if ¬ x6 = 0 then 1267 else 1255) [aC c0, aD p1, aD p2, aD p3, aD p4, aI x5, aI x6, aI x7, v8] dl [] h := by
  refine (s_go mt_L_law dL_law_1250 rfl).trans ?_
  exact q_if mt_L_law dL_law_1252 (fun _ _ _ _ => rfl) rfl
theorem e_L_law_1255 (sc : SC) (c0 : Nat) (p1 : Nat) (p2 : Nat) (p3 : Nat) (p4 : Nat) (x5 : Int32) (x6 : Int32) (x7 : Int32) (v8 : AV) (dl : DL) (h : AH) : Run sc n_L_law 1255 [aC c0, aD p1, aD p2, aD p3, aD p4, aI x5, aI x6, aI x7, v8] dl [] h = bO (ldL h p3 (nI 0)) (fun z => Run sc n_L_law 1258 [aC c0, aD p1, aD p2, aD p3, aD p4, aI x5, aI x6, aI x7, v8] dl [aL z] h) := by
  refine (s_go mt_L_law dL_law_1255 rfl).trans ?_
  refine (s_go mt_L_law dL_law_1256 rfl).trans ?_
  exact q_laload mt_L_law dL_law_1257
theorem e_L_law_1265 (sc : SC) (c0 : Nat) (p1 : Nat) (p2 : Nat) (p3 : Nat) (p4 : Nat) (x5 : Int32) (x6 : Int32) (x7 : Int32) (v8 : AV) (dl : DL) (h : AH) : Run sc n_L_law 1265 [aC c0, aD p1, aD p2, aD p3, aD p4, aI x5, aI x6, aI x7, v8] dl [] h = some (.inl (some (aI (nI 0))), h) := by
  refine (s_go mt_L_law dL_law_1265 rfl).trans ?_
  exact q_ret (c := (some (aI (nI 0)), h)) mt_L_law dL_law_1266 rfl
theorem e_L_law_1267 (sc : SC) (c0 : Nat) (p1 : Nat) (p2 : Nat) (p3 : Nat) (p4 : Nat) (x5 : Int32) (x6 : Int32) (x7 : Int32) (v8 : AV) (dl : DL) (h : AH) : Run sc n_L_law 1267 [aC c0, aD p1, aD p2, aD p3, aD p4, aI x5, aI x6, aI x7, v8] dl [] h = Run sc n_L_law 1606 [aC c0, aD p1, aD p2, aD p3, aD p4, aI x5, aI x6, aI x7, v8] dl [] h := by
  refine (s_go mt_L_law dL_law_1267 rfl).trans ?_
  exact rfl
theorem e_L_law_1270 (sc : SC) (c0 : Nat) (p1 : Nat) (p2 : Nat) (p3 : Nat) (p4 : Nat) (x5 : Int32) (v6 : AV) (v7 : AV) (v8 : AV) (dl : DL) (h : AH) : Run sc n_L_law 1270 [aC c0, aD p1, aD p2, aD p3, aD p4, aI x5, v6, v7, v8] dl [] h = bO (ldI sc h (fun t => t == 0) (aC c0) (x5 + (nI 1))) (fun z => Run sc n_L_law 1277 [aC c0, aD p1, aD p2, aD p3, aD p4, aI x5, v6, v7, v8] dl [aI z, aD p1] h) := by
  refine (s_go mt_L_law dL_law_1270 rfl).trans ?_
  refine (s_go mt_L_law dL_law_1271 rfl).trans ?_
  refine (s_go mt_L_law dL_law_1272 rfl).trans ?_
  refine (s_go mt_L_law dL_law_1274 rfl).trans ?_
  refine (s_go mt_L_law dL_law_1275 rfl).trans ?_
  exact q_iaload mt_L_law dL_law_1276
theorem e_L_law_1304 (sc : SC) (c0 : Nat) (p1 : Nat) (p2 : Nat) (p3 : Nat) (p4 : Nat) (x5 : Int32) (x6 : Int32) (x7 : Int32) (v8 : AV) (dl : DL) (h : AH) : Run sc n_L_law 1304 [aC c0, aD p1, aD p2, aD p3, aD p4, aI x5, aI x6, aI x7, v8] dl [] h = some (.inl (some (aI (nI 0))), h) := by
  refine (s_go mt_L_law dL_law_1304 rfl).trans ?_
  exact q_ret (c := (some (aI (nI 0)), h)) mt_L_law dL_law_1305 rfl
theorem e_L_law_1306 (sc : SC) (c0 : Nat) (p1 : Nat) (p2 : Nat) (p3 : Nat) (p4 : Nat) (x5 : Int32) (x6 : Int32) (x7 : Int32) (v8 : AV) (dl : DL) (h : AH) : Run sc n_L_law 1306 [aC c0, aD p1, aD p2, aD p3, aD p4, aI x5, aI x6, aI x7, v8] dl [] h = Run sc n_L_law (if ¬ x6 = 0 then 1323 else 1311) [aC c0, aD p1, aD p2, aD p3, aD p4, aI x5, aI x6, aI x7, v8] dl [] h := by
  refine (s_go mt_L_law dL_law_1306 rfl).trans ?_
  exact q_if mt_L_law dL_law_1308 (fun _ _ _ _ => rfl) rfl
theorem e_L_law_1311 (sc : SC) (c0 : Nat) (p1 : Nat) (p2 : Nat) (p3 : Nat) (p4 : Nat) (x5 : Int32) (x6 : Int32) (x7 : Int32) (v8 : AV) (dl : DL) (h : AH) : Run sc n_L_law 1311 [aC c0, aD p1, aD p2, aD p3, aD p4, aI x5, aI x6, aI x7, v8] dl [] h = bO (ldL h p3 (nI 0)) (fun z => Run sc n_L_law 1314 [aC c0, aD p1, aD p2, aD p3, aD p4, aI x5, aI x6, aI x7, v8] dl [aL z] h) := by
  refine (s_go mt_L_law dL_law_1311 rfl).trans ?_
  refine (s_go mt_L_law dL_law_1312 rfl).trans ?_
  exact q_laload mt_L_law dL_law_1313
theorem e_L_law_1321 (sc : SC) (c0 : Nat) (p1 : Nat) (p2 : Nat) (p3 : Nat) (p4 : Nat) (x5 : Int32) (x6 : Int32) (x7 : Int32) (v8 : AV) (dl : DL) (h : AH) : Run sc n_L_law 1321 [aC c0, aD p1, aD p2, aD p3, aD p4, aI x5, aI x6, aI x7, v8] dl [] h = some (.inl (some (aI (nI 0))), h) := by
  refine (s_go mt_L_law dL_law_1321 rfl).trans ?_
  exact q_ret (c := (some (aI (nI 0)), h)) mt_L_law dL_law_1322 rfl
theorem e_L_law_1323 (sc : SC) (c0 : Nat) (p1 : Nat) (p2 : Nat) (p3 : Nat) (p4 : Nat) (x5 : Int32) (x6 : Int32) (x7 : Int32) (v8 : AV) (dl : DL) (h : AH) : Run sc n_L_law 1323 [aC c0, aD p1, aD p2, aD p3, aD p4, aI x5, aI x6, aI x7, v8] dl [] h = Run sc n_L_law 1606 [aC c0, aD p1, aD p2, aD p3, aD p4, aI x5, aI x6, aI x7, v8] dl [] h := by
  refine (s_go mt_L_law dL_law_1323 rfl).trans ?_
  exact rfl
theorem e_L_law_1326 (sc : SC) (c0 : Nat) (p1 : Nat) (p2 : Nat) (p3 : Nat) (p4 : Nat) (x5 : Int32) (v6 : AV) (v7 : AV) (v8 : AV) (dl : DL) (h : AH) : Run sc n_L_law 1326 [aC c0, aD p1, aD p2, aD p3, aD p4, aI x5, v6, v7, v8] dl [] h = bO (ldI sc h (fun t => t == 0) (aC c0) (x5 + (nI 1))) (fun z => Run sc n_L_law 1333 [aC c0, aD p1, aD p2, aD p3, aD p4, aI x5, v6, v7, v8] dl [aI z, aD p1] h) := by
  refine (s_go mt_L_law dL_law_1326 rfl).trans ?_
  refine (s_go mt_L_law dL_law_1327 rfl).trans ?_
  refine (s_go mt_L_law dL_law_1328 rfl).trans ?_
  refine (s_go mt_L_law dL_law_1330 rfl).trans ?_
  refine (s_go mt_L_law dL_law_1331 rfl).trans ?_
  exact q_iaload mt_L_law dL_law_1332
theorem e_L_law_1372 (sc : SC) (c0 : Nat) (p1 : Nat) (p2 : Nat) (p3 : Nat) (p4 : Nat) (x5 : Int32) (x6 : Int32) (x7 : Int32) (v8 : AV) (dl : DL) (h : AH) : Run sc n_L_law 1372 [aC c0, aD p1, aD p2, aD p3, aD p4, aI x5, aI x6, aI x7, v8] dl [] h = some (.inl (some (aI (nI 0))), h) := by
  refine (s_go mt_L_law dL_law_1372 rfl).trans ?_
  exact q_ret (c := (some (aI (nI 0)), h)) mt_L_law dL_law_1373 rfl
theorem e_L_law_1374 (sc : SC) (c0 : Nat) (p1 : Nat) (p2 : Nat) (p3 : Nat) (p4 : Nat) (x5 : Int32) (x6 : Int32) (x7 : Int32) (v8 : AV) (dl : DL) (h : AH) : Run sc n_L_law 1374 [aC c0, aD p1, aD p2, aD p3, aD p4, aI x5, aI x6, aI x7, v8] dl [] h = Run sc n_L_law (if ¬ x6 = 0 then 1391 else 1379) [aC c0, aD p1, aD p2, aD p3, aD p4, aI x5, aI x6, aI x7, v8] dl [] h := by
  refine (s_go mt_L_law dL_law_1374 rfl).trans ?_
  exact q_if mt_L_law dL_law_1376 (fun _ _ _ _ => rfl) rfl
theorem e_L_law_1379 (sc : SC) (c0 : Nat) (p1 : Nat) (p2 : Nat) (p3 : Nat) (p4 : Nat) (x5 : Int32) (x6 : Int32) (x7 : Int32) (v8 : AV) (dl : DL) (h : AH) : Run sc n_L_law 1379 [aC c0, aD p1, aD p2, aD p3, aD p4, aI x5, aI x6, aI x7, v8] dl [] h = bO (ldL h p3 (nI 0)) (fun z => Run sc n_L_law 1382 [aC c0, aD p1, aD p2, aD p3, aD p4, aI x5, aI x6, aI x7, v8] dl [aL z] h) := by
  refine (s_go mt_L_law dL_law_1379 rfl).trans ?_
  refine (s_go mt_L_law dL_law_1380 rfl).trans ?_
  exact q_laload mt_L_law dL_law_1381
theorem e_L_law_1389 (sc : SC) (c0 : Nat) (p1 : Nat) (p2 : Nat) (p3 : Nat) (p4 : Nat) (x5 : Int32) (x6 : Int32) (x7 : Int32) (v8 : AV) (dl : DL) (h : AH) : Run sc n_L_law 1389 [aC c0, aD p1, aD p2, aD p3, aD p4, aI x5, aI x6, aI x7, v8] dl [] h = some (.inl (some (aI (nI 0))), h) := by
  refine (s_go mt_L_law dL_law_1389 rfl).trans ?_
  exact q_ret (c := (some (aI (nI 0)), h)) mt_L_law dL_law_1390 rfl
theorem e_L_law_1391 (sc : SC) (c0 : Nat) (p1 : Nat) (p2 : Nat) (p3 : Nat) (p4 : Nat) (x5 : Int32) (x6 : Int32) (x7 : Int32) (v8 : AV) (dl : DL) (h : AH) : Run sc n_L_law 1391 [aC c0, aD p1, aD p2, aD p3, aD p4, aI x5, aI x6, aI x7, v8] dl [] h = Run sc n_L_law 1606 [aC c0, aD p1, aD p2, aD p3, aD p4, aI x5, aI x6, aI x7, v8] dl [] h := by
  refine (s_go mt_L_law dL_law_1391 rfl).trans ?_
  exact rfl
theorem e_L_law_1394 (sc : SC) (c0 : Nat) (p1 : Nat) (p2 : Nat) (p3 : Nat) (p4 : Nat) (x5 : Int32) (v6 : AV) (v7 : AV) (v8 : AV) (dl : DL) (h : AH) : Run sc n_L_law 1394 [aC c0, aD p1, aD p2, aD p3, aD p4, aI x5, v6, v7, v8] dl [] h = bO (ldI sc h (fun t => t == 0) (aC c0) (x5 + (nI 1))) (fun z => Run sc n_L_law 1401 [aC c0, aD p1, aD p2, aD p3, aD p4, aI x5, v6, v7, v8] dl [aI z, aD p1] h) := by
  refine (s_go mt_L_law dL_law_1394 rfl).trans ?_
  refine (s_go mt_L_law dL_law_1395 rfl).trans ?_
  refine (s_go mt_L_law dL_law_1396 rfl).trans ?_
  refine (s_go mt_L_law dL_law_1398 rfl).trans ?_
  refine (s_go mt_L_law dL_law_1399 rfl).trans ?_
  exact q_iaload mt_L_law dL_law_1400
theorem e_L_law_1441 (sc : SC) (c0 : Nat) (p1 : Nat) (p2 : Nat) (p3 : Nat) (p4 : Nat) (x5 : Int32) (x6 : Int32) (v7 : AV) (v8 : AV) (dl : DL) (h : AH) : Run sc n_L_law 1441 [aC c0, aD p1, aD p2, aD p3, aD p4, aI x5, aI x6, v7, v8] dl [] h = some (.inl (some (aI (nI 0))), h) := by
  refine (s_go mt_L_law dL_law_1441 rfl).trans ?_
  exact q_ret (c := (some (aI (nI 0)), h)) mt_L_law dL_law_1442 rfl
theorem e_L_law_1443 (sc : SC) (c0 : Nat) (p1 : Nat) (p2 : Nat) (p3 : Nat) (p4 : Nat) (x5 : Int32) (x6 : Int32) (v7 : AV) (v8 : AV) (dl : DL) (h : AH) : Run sc n_L_law 1443 [aC c0, aD p1, aD p2, aD p3, aD p4, aI x5, aI x6, v7, v8] dl [] h = Run sc n_L_law (if ¬ x6 = 0 then 1480 else 1448) [aC c0, aD p1, aD p2, aD p3, aD p4, aI x5, aI x6, v7, v8] dl [] h := by
  refine (s_go mt_L_law dL_law_1443 rfl).trans ?_
  exact q_if mt_L_law dL_law_1445 (fun _ _ _ _ => rfl) rfl
theorem e_L_law_1448 (sc : SC) (c0 : Nat) (p1 : Nat) (p2 : Nat) (p3 : Nat) (p4 : Nat) (x5 : Int32) (x6 : Int32) (v7 : AV) (v8 : AV) (dl : DL) (h : AH) : Run sc n_L_law 1448 [aC c0, aD p1, aD p2, aD p3, aD p4, aI x5, aI x6, v7, v8] dl [] h = bO (ldE h p4 (nI 0)) (fun z => Run sc n_L_law 1452 [aC c0, aD p1, aD p2, aD p3, aD p4, aI x5, aI x6, v7, v8] dl [aE z] h) := by
  refine (s_go mt_L_law dL_law_1448 rfl).trans ?_
  refine (s_go mt_L_law dL_law_1450 rfl).trans ?_
  exact q_daload mt_L_law dL_law_1451
theorem e_L_law_1458 (sc : SC) (c0 : Nat) (p1 : Nat) (p2 : Nat) (p3 : Nat) (p4 : Nat) (x5 : Int32) (x6 : Int32) (v7 : AV) (v8 : AV) (dl : DL) (h : AH) : Run sc n_L_law 1458 [aC c0, aD p1, aD p2, aD p3, aD p4, aI x5, aI x6, v7, v8] dl [] h = bO (ldE h p4 (nI 0)) (fun z => Run sc n_L_law 1462 [aC c0, aD p1, aD p2, aD p3, aD p4, aI x5, aI x6, v7, v8] dl [aE z] h) := by
  refine (s_go mt_L_law dL_law_1458 rfl).trans ?_
  refine (s_go mt_L_law dL_law_1460 rfl).trans ?_
  exact q_daload mt_L_law dL_law_1461
theorem e_L_law_1470 (sc : SC) (c0 : Nat) (p1 : Nat) (p2 : Nat) (p3 : Nat) (p4 : Nat) (x5 : Int32) (x6 : Int32) (v7 : AV) (v8 : AV) (e7 : UInt64) (h : AH) : Run sc n_L_law 1470 [aC c0, aD p1, aD p2, aD p3, aD p4, aI x5, aI x6, v7, v8] (some (7, e7)) [] h = Run sc n_L_law (if ¬ (Op.cmpValue (FP.dcmp e7 e7) .l) = 0 then 1480 else 1478) [aC c0, aD p1, aD p2, aD p3, aD p4, aI x5, aI x6, v7, v8] (some (7, e7)) [] h := by
  refine (s_go mt_L_law dL_law_1470 rfl).trans ?_
  refine (s_go mt_L_law dL_law_1472 rfl).trans ?_
  refine (s_go mt_L_law dL_law_1474 rfl).trans ?_
  exact q_if mt_L_law dL_law_1475 (fun _ _ _ _ => rfl) rfl
theorem e_L_law_1478 (sc : SC) (c0 : Nat) (p1 : Nat) (p2 : Nat) (p3 : Nat) (p4 : Nat) (x5 : Int32) (x6 : Int32) (v7 : AV) (v8 : AV) (dl : DL) (h : AH) : Run sc n_L_law 1478 [aC c0, aD p1, aD p2, aD p3, aD p4, aI x5, aI x6, v7, v8] dl [] h = some (.inl (some (aI (nI 0))), h) := by
  refine (s_go mt_L_law dL_law_1478 rfl).trans ?_
  exact q_ret (c := (some (aI (nI 0)), h)) mt_L_law dL_law_1479 rfl
theorem e_L_law_1480 (sc : SC) (c0 : Nat) (p1 : Nat) (p2 : Nat) (p3 : Nat) (p4 : Nat) (x5 : Int32) (x6 : Int32) (v7 : AV) (v8 : AV) (dl : DL) (h : AH) : Run sc n_L_law 1480 [aC c0, aD p1, aD p2, aD p3, aD p4, aI x5, aI x6, v7, v8] dl [] h = Run sc n_L_law 1606 [aC c0, aD p1, aD p2, aD p3, aD p4, aI x5, aI x6, v7, v8] dl [] h := by
  refine (s_go mt_L_law dL_law_1480 rfl).trans ?_
  exact rfl
theorem e_L_law_1483 (sc : SC) (c0 : Nat) (p1 : Nat) (p2 : Nat) (p3 : Nat) (p4 : Nat) (x5 : Int32) (v6 : AV) (v7 : AV) (v8 : AV) (dl : DL) (h : AH) : Run sc n_L_law 1483 [aC c0, aD p1, aD p2, aD p3, aD p4, aI x5, v6, v7, v8] dl [] h = bC (Call sc n_L_filledShare [aD p1, aD p4] h) (fun v z => Run sc n_L_law 1489 [aC c0, aD p1, aD p2, aD p3, aD p4, aI x5, v6, v7, v8] dl (v.toList ++ []) z) (fun _ _ => none) := by
  refine (s_go mt_L_law dL_law_1483 rfl).trans ?_
  refine (s_go mt_L_law dL_law_1484 rfl).trans ?_
  exact q_cSD mt_L_law dL_law_1486 rfl mt_L_filledShare rfl
theorem e_L_law_1506 (sc : SC) (c0 : Nat) (p1 : Nat) (p2 : Nat) (p3 : Nat) (p4 : Nat) (x5 : Int32) (x6 : Int32) (f7 : UInt32) (v8 : AV) (dl : DL) (h : AH) : Run sc n_L_law 1506 [aC c0, aD p1, aD p2, aD p3, aD p4, aI x5, aI x6, aF f7, v8] dl [] h = some (.inl (some (aI (nI 0))), h) := by
  refine (s_go mt_L_law dL_law_1506 rfl).trans ?_
  exact q_ret (c := (some (aI (nI 0)), h)) mt_L_law dL_law_1507 rfl
theorem e_L_law_1508 (sc : SC) (c0 : Nat) (p1 : Nat) (p2 : Nat) (p3 : Nat) (p4 : Nat) (x5 : Int32) (x6 : Int32) (f7 : UInt32) (v8 : AV) (dl : DL) (h : AH) : Run sc n_L_law 1508 [aC c0, aD p1, aD p2, aD p3, aD p4, aI x5, aI x6, aF f7, v8] dl [] h = Run sc n_L_law (if ¬ x6 = 0 then 1546 else 1513) [aC c0, aD p1, aD p2, aD p3, aD p4, aI x5, aI x6, aF f7, v8] dl [] h := by
  refine (s_go mt_L_law dL_law_1508 rfl).trans ?_
  exact q_if mt_L_law dL_law_1510 (fun _ _ _ _ => rfl) rfl
theorem e_L_law_1513 (sc : SC) (c0 : Nat) (p1 : Nat) (p2 : Nat) (p3 : Nat) (p4 : Nat) (x5 : Int32) (x6 : Int32) (f7 : UInt32) (v8 : AV) (dl : DL) (h : AH) : Run sc n_L_law 1513 [aC c0, aD p1, aD p2, aD p3, aD p4, aI x5, aI x6, aF f7, v8] dl [] h = bO (ldE h p4 (nI 0)) (fun z => Run sc n_L_law 1517 [aC c0, aD p1, aD p2, aD p3, aD p4, aI x5, aI x6, aF f7, v8] dl [aE z] h) := by
  refine (s_go mt_L_law dL_law_1513 rfl).trans ?_
  refine (s_go mt_L_law dL_law_1515 rfl).trans ?_
  exact q_daload mt_L_law dL_law_1516
theorem e_L_law_1524 (sc : SC) (c0 : Nat) (p1 : Nat) (p2 : Nat) (p3 : Nat) (p4 : Nat) (x5 : Int32) (x6 : Int32) (f7 : UInt32) (v8 : AV) (dl : DL) (h : AH) : Run sc n_L_law 1524 [aC c0, aD p1, aD p2, aD p3, aD p4, aI x5, aI x6, aF f7, v8] dl [] h = bO (ldE h p4 (nI 0)) (fun z => Run sc n_L_law 1528 [aC c0, aD p1, aD p2, aD p3, aD p4, aI x5, aI x6, aF f7, v8] dl [aE z] h) := by
  refine (s_go mt_L_law dL_law_1524 rfl).trans ?_
  refine (s_go mt_L_law dL_law_1526 rfl).trans ?_
  exact q_daload mt_L_law dL_law_1527
theorem e_L_law_1544 (sc : SC) (c0 : Nat) (p1 : Nat) (p2 : Nat) (p3 : Nat) (p4 : Nat) (x5 : Int32) (x6 : Int32) (f7 : UInt32) (v8 : AV) (dl : DL) (h : AH) : Run sc n_L_law 1544 [aC c0, aD p1, aD p2, aD p3, aD p4, aI x5, aI x6, aF f7, v8] dl [] h = some (.inl (some (aI (nI 0))), h) := by
  refine (s_go mt_L_law dL_law_1544 rfl).trans ?_
  exact q_ret (c := (some (aI (nI 0)), h)) mt_L_law dL_law_1545 rfl
theorem e_L_law_1546 (sc : SC) (c0 : Nat) (p1 : Nat) (p2 : Nat) (p3 : Nat) (p4 : Nat) (x5 : Int32) (x6 : Int32) (f7 : UInt32) (v8 : AV) (dl : DL) (h : AH) : Run sc n_L_law 1546 [aC c0, aD p1, aD p2, aD p3, aD p4, aI x5, aI x6, aF f7, v8] dl [] h = Run sc n_L_law 1606 [aC c0, aD p1, aD p2, aD p3, aD p4, aI x5, aI x6, aF f7, v8] dl [] h := by
  refine (s_go mt_L_law dL_law_1546 rfl).trans ?_
  exact rfl
theorem e_L_law_1549 (sc : SC) (c0 : Nat) (p1 : Nat) (p2 : Nat) (p3 : Nat) (p4 : Nat) (x5 : Int32) (v6 : AV) (v7 : AV) (v8 : AV) (dl : DL) (h : AH) : Run sc n_L_law 1549 [aC c0, aD p1, aD p2, aD p3, aD p4, aI x5, v6, v7, v8] dl [] h = bI (rOK sc h (aD p1) 11 = true) (bC (Call sc n_X9_save [aD p1] h) (fun v z => Run sc n_L_law 1553 [aC c0, aD p1, aD p2, aD p3, aD p4, aI x5, v6, v7, v8] dl (v.toList ++ []) z) (fun E z => some (.inr E, z))) := by
  refine (s_go mt_L_law dL_law_1549 rfl).trans ?_
  exact q_cV mt_L_law dL_law_1550 rfl mt_X9_save rfl rfl rfl
theorem e_L_law_1560 (sc : SC) (c0 : Nat) (p1 : Nat) (p2 : Nat) (p3 : Nat) (p4 : Nat) (x5 : Int32) (v6 : AV) (v7 : AV) (v8 : AV) (dl : DL) (h : AH) : Run sc n_L_law 1560 [aC c0, aD p1, aD p2, aD p3, aD p4, aI x5, v6, v7, v8] dl [] h = some (.inl (some (aI (nI 0))), h) := by
  refine (s_go mt_L_law dL_law_1560 rfl).trans ?_
  exact q_ret (c := (some (aI (nI 0)), h)) mt_L_law dL_law_1561 rfl
theorem e_L_law_1562 (sc : SC) (c0 : Nat) (p1 : Nat) (p2 : Nat) (p3 : Nat) (p4 : Nat) (x5 : Int32) (v6 : AV) (v7 : AV) (v8 : AV) (dl : DL) (h : AH) : Run sc n_L_law 1562 [aC c0, aD p1, aD p2, aD p3, aD p4, aI x5, v6, v7, v8] dl [] h = bC (Call sc n_L_restore [aD p1, aD p3] h) (fun v z => Run sc n_L_law 1567 [aC c0, aD p1, aD p2, aD p3, aD p4, aI x5, v6, v7, v8] dl (v.toList ++ []) z) (fun _ _ => none) := by
  refine (s_go mt_L_law dL_law_1562 rfl).trans ?_
  refine (s_go mt_L_law dL_law_1563 rfl).trans ?_
  exact q_cSD mt_L_law dL_law_1564 rfl mt_L_restore rfl
theorem e_L_law_1584 (sc : SC) (c0 : Nat) (p1 : Nat) (p2 : Nat) (p3 : Nat) (p4 : Nat) (x5 : Int32) (x6 : Int32) (x7 : Int32) (v8 : AV) (dl : DL) (h : AH) : Run sc n_L_law 1584 [aC c0, aD p1, aD p2, aD p3, aD p4, aI x5, aI x6, aI x7, v8] dl [] h = some (.inl (some (aI (nI 0))), h) := by
  refine (s_go mt_L_law dL_law_1584 rfl).trans ?_
  exact q_ret (c := (some (aI (nI 0)), h)) mt_L_law dL_law_1585 rfl
theorem e_L_law_1586 (sc : SC) (c0 : Nat) (p1 : Nat) (p2 : Nat) (p3 : Nat) (p4 : Nat) (x5 : Int32) (x6 : Int32) (x7 : Int32) (v8 : AV) (dl : DL) (h : AH) : Run sc n_L_law 1586 [aC c0, aD p1, aD p2, aD p3, aD p4, aI x5, aI x6, aI x7, v8] dl [] h = Run sc n_L_law (if ¬ x6 = 0 then 1603 else 1591) [aC c0, aD p1, aD p2, aD p3, aD p4, aI x5, aI x6, aI x7, v8] dl [] h := by
  refine (s_go mt_L_law dL_law_1586 rfl).trans ?_
  exact q_if mt_L_law dL_law_1588 (fun _ _ _ _ => rfl) rfl
theorem e_L_law_1591 (sc : SC) (c0 : Nat) (p1 : Nat) (p2 : Nat) (p3 : Nat) (p4 : Nat) (x5 : Int32) (x6 : Int32) (x7 : Int32) (v8 : AV) (dl : DL) (h : AH) : Run sc n_L_law 1591 [aC c0, aD p1, aD p2, aD p3, aD p4, aI x5, aI x6, aI x7, v8] dl [] h = bO (ldL h p3 (nI 0)) (fun z => Run sc n_L_law 1594 [aC c0, aD p1, aD p2, aD p3, aD p4, aI x5, aI x6, aI x7, v8] dl [aL z] h) := by
  refine (s_go mt_L_law dL_law_1591 rfl).trans ?_
  refine (s_go mt_L_law dL_law_1592 rfl).trans ?_
  exact q_laload mt_L_law dL_law_1593
theorem e_L_law_1601 (sc : SC) (c0 : Nat) (p1 : Nat) (p2 : Nat) (p3 : Nat) (p4 : Nat) (x5 : Int32) (x6 : Int32) (x7 : Int32) (v8 : AV) (dl : DL) (h : AH) : Run sc n_L_law 1601 [aC c0, aD p1, aD p2, aD p3, aD p4, aI x5, aI x6, aI x7, v8] dl [] h = some (.inl (some (aI (nI 0))), h) := by
  refine (s_go mt_L_law dL_law_1601 rfl).trans ?_
  exact q_ret (c := (some (aI (nI 0)), h)) mt_L_law dL_law_1602 rfl
theorem e_L_law_1603 (sc : SC) (c0 : Nat) (p1 : Nat) (p2 : Nat) (p3 : Nat) (p4 : Nat) (x5 : Int32) (x6 : Int32) (x7 : Int32) (v8 : AV) (dl : DL) (h : AH) : Run sc n_L_law 1603 [aC c0, aD p1, aD p2, aD p3, aD p4, aI x5, aI x6, aI x7, v8] dl [] h = Run sc n_L_law 1606 [aC c0, aD p1, aD p2, aD p3, aD p4, aI x5, aI x6, aI x7, v8] dl [] h := by
  refine (s_go mt_L_law dL_law_1603 rfl).trans ?_
  exact rfl
theorem e_L_law_1606 (sc : SC) (c0 : Nat) (p1 : Nat) (p2 : Nat) (p3 : Nat) (p4 : Nat) (x5 : Int32) (v6 : AV) (v7 : AV) (v8 : AV) (dl : DL) (h : AH) : Run sc n_L_law 1606 [aC c0, aD p1, aD p2, aD p3, aD p4, aI x5, v6, v7, v8] dl [] h = Run sc n_L_law 28 [aC c0, aD p1, aD p2, aD p3, aD p4, aI (x5 + nI 4), v6, v7, v8] (dlc 5 dl) [] h := by
  refine (s_go mt_L_law dL_law_1606 rfl).trans ?_
  refine (s_go mt_L_law dL_law_1609 rfl).trans ?_
  exact rfl
theorem e_L_law_1612 (sc : SC) (c0 : Nat) (p1 : Nat) (p2 : Nat) (p3 : Nat) (p4 : Nat) (x5 : Int32) (v6 : AV) (v7 : AV) (v8 : AV) (dl : DL) (h : AH) : Run sc n_L_law 1612 [aC c0, aD p1, aD p2, aD p3, aD p4, aI x5, v6, v7, v8] dl [] h = some (.inl (some (aI (nI 1))), h) := by
  refine (s_go mt_L_law dL_law_1612 rfl).trans ?_
  exact q_ret (c := (some (aI (nI 1)), h)) mt_L_law dL_law_1613 rfl
theorem e_L_law_7 (sc : SC) (c0 : Nat) (v1 : AV) (v2 : AV) (v3 : AV) (v4 : AV) (v5 : AV) (v6 : AV) (v7 : AV) (v8 : AV) (q0 : Nat) (dl : DL) (h : AH) : Run sc n_L_law 7 [aC c0, v1, v2, v3, v4, v5, v6, v7, v8] dl [aD q0] h = bC (Call sc n_X10_init [aD h.1.length] (hpush h (oO 12 [aI 0, aN, aI 0, aN, aN, aI 0, aN, aI 0, aI 0, aI 0, aI 0, aN, aI 0, aN, aN, aN, aI 0, aN, aN, aN, aI 0, aI 0, aI 0, aN, aN, aI 0, aN, aI 0, aN, aN, aI 0, aN, aI 0, aN, aN]))) (fun v z => Run sc n_L_law 15 [aC c0, aD q0, v2, v3, v4, v5, v6, v7, v8] (dlc 1 dl) (v.toList ++ [aD h.1.length]) z) (fun _ _ => none) := by
  refine (s_go mt_L_law dL_law_7 rfl).trans ?_
  refine (s_go mt_L_law dL_law_8 rfl).trans ?_
  refine (s_go mt_L_law dL_law_11 rfl).trans ?_
  exact q_cI mt_L_law dL_law_12 rfl mt_X10_init rfl rfl rfl
theorem e_L_law_32 (sc : SC) (c0 : Nat) (p1 : Nat) (p2 : Nat) (p3 : Nat) (p4 : Nat) (x5 : Int32) (v6 : AV) (v7 : AV) (v8 : AV) (y0 : Int32) (y1 : Int32) (dl : DL) (h : AH) : Run sc n_L_law 32 [aC c0, aD p1, aD p2, aD p3, aD p4, aI x5, v6, v7, v8] dl [aI y1, aI y0] h = Run sc n_L_law (if (y1 - (nI 4)) < y0 then 1612 else 37) [aC c0, aD p1, aD p2, aD p3, aD p4, aI x5, v6, v7, v8] dl [] h := by
  refine (s_go mt_L_law dL_law_32 rfl).trans ?_
  refine (s_go mt_L_law dL_law_33 rfl).trans ?_
  exact q_icmp mt_L_law dL_law_34 (fun _ _ _ _ => rfl) rfl
theorem e_L_law_41 (sc : SC) (c0 : Nat) (p1 : Nat) (p2 : Nat) (p3 : Nat) (p4 : Nat) (x5 : Int32) (v6 : AV) (v7 : AV) (v8 : AV) (y0 : Int32) (dl : DL) (h : AH) : Run sc n_L_law 41 [aC c0, aD p1, aD p2, aD p3, aD p4, aI x5, v6, v7, v8] dl [aI y0] h = Run sc n_L_law (if (y0 &&& (nI 31)).toInt < 0 ∨ 26 < (y0 &&& (nI 31)).toInt then 1606 else ([168, 226, 270, 283, 296, 364, 377, 390, 458, 514, 570, 645, 713, 781, 849, 893, 906, 962, 1058, 1142, 1226, 1270, 1326, 1394, 1483, 1549, 1562] : List Nat).getD ((y0 &&& (nI 31)).toInt - 0).toNat 0) [aC c0, aD p1, aD p2, aD p3, aD p4, aI x5, v6, v7, v8] dl [] h := by
  refine (s_go mt_L_law dL_law_41 rfl).trans ?_
  refine (s_go mt_L_law dL_law_43 rfl).trans ?_
  exact q_table (pc := 44) (T := [168, 226, 270, 283, 296, 364, 377, 390, 458, 514, 570, 645, 713, 781, 849, 893, 906, 962, 1058, 1142, 1226, 1270, 1326, 1394, 1483, 1549, 1562]) mt_L_law dL_law_44 rfl (by decide +kernel)
theorem e_L_law_175 (sc : SC) (c0 : Nat) (p1 : Nat) (p2 : Nat) (p3 : Nat) (p4 : Nat) (x5 : Int32) (v6 : AV) (v7 : AV) (v8 : AV) (q0 : Nat) (y1 : Int32) (dl : DL) (h : AH) : Run sc n_L_law 175 [aC c0, aD p1, aD p2, aD p3, aD p4, aI x5, v6, v7, v8] dl [aI y1, aD q0] h = bC (Call sc n_L_feed [aD q0, aI (((y1).toUInt32 % 65536).toInt32), aD p3] h) (fun v z => Run sc n_L_law 180 [aC c0, aD p1, aD p2, aD p3, aD p4, aI x5, v6, v7, v8] dl (v.toList ++ []) z) (fun _ _ => none) := by
  refine (s_go mt_L_law dL_law_175 rfl).trans ?_
  refine (s_go mt_L_law dL_law_176 rfl).trans ?_
  exact q_cSD mt_L_law dL_law_177 rfl mt_L_feed rfl
theorem e_L_law_214 (sc : SC) (c0 : Nat) (p1 : Nat) (p2 : Nat) (p3 : Nat) (p4 : Nat) (x5 : Int32) (x6 : Int32) (x7 : Int32) (v8 : AV) (l0 : Int64) (dl : DL) (h : AH) : Run sc n_L_law 214 [aC c0, aD p1, aD p2, aD p3, aD p4, aI x5, aI x6, aI x7, v8] dl [aL l0] h = Run sc n_L_law (if (if l0 < ((x7).toInt64) then (-1 : Int32) else if l0 = ((x7).toInt64) then 0 else 1) = 0 then 223 else 221) [aC c0, aD p1, aD p2, aD p3, aD p4, aI x5, aI x6, aI x7, v8] dl [] h := by
  refine (s_go mt_L_law dL_law_214 rfl).trans ?_
  refine (s_go mt_L_law dL_law_216 rfl).trans ?_
  refine (s_go mt_L_law dL_law_217 rfl).trans ?_
  exact q_if mt_L_law dL_law_218 (fun _ _ _ _ => rfl) rfl
theorem e_L_law_231 (sc : SC) (c0 : Nat) (p1 : Nat) (p2 : Nat) (p3 : Nat) (p4 : Nat) (x5 : Int32) (v6 : AV) (v7 : AV) (v8 : AV) (y0 : Int32) (dl : DL) (h : AH) : Run sc n_L_law 231 [aC c0, aD p1, aD p2, aD p3, aD p4, aI x5, v6, v7, v8] dl [aI y0] h = bI (rOK sc h (aD p2) 12 = true) (bC (Call sc n_X10_parse [aD p2] h) (fun v z => Run sc n_L_law 237 [aC c0, aD p1, aD p2, aD p3, aD p4, aI x5, aI y0, v7, v8] (dlc 6 dl) (v.toList ++ []) z) (fun E z => some (.inr E, z))) := by
  refine (s_go mt_L_law dL_law_231 rfl).trans ?_
  refine (s_go mt_L_law dL_law_233 rfl).trans ?_
  exact q_cV mt_L_law dL_law_234 rfl mt_X10_parse rfl rfl rfl
theorem e_L_law_258 (sc : SC) (c0 : Nat) (p1 : Nat) (p2 : Nat) (p3 : Nat) (p4 : Nat) (x5 : Int32) (x6 : Int32) (x7 : Int32) (v8 : AV) (l0 : Int64) (dl : DL) (h : AH) : Run sc n_L_law 258 [aC c0, aD p1, aD p2, aD p3, aD p4, aI x5, aI x6, aI x7, v8] dl [aL l0] h = Run sc n_L_law (if (if l0 < ((x7).toInt64) then (-1 : Int32) else if l0 = ((x7).toInt64) then 0 else 1) = 0 then 267 else 265) [aC c0, aD p1, aD p2, aD p3, aD p4, aI x5, aI x6, aI x7, v8] dl [] h := by
  refine (s_go mt_L_law dL_law_258 rfl).trans ?_
  refine (s_go mt_L_law dL_law_260 rfl).trans ?_
  refine (s_go mt_L_law dL_law_261 rfl).trans ?_
  exact q_if mt_L_law dL_law_262 (fun _ _ _ _ => rfl) rfl
theorem e_L_law_274 (sc : SC) (c0 : Nat) (p1 : Nat) (p2 : Nat) (p3 : Nat) (p4 : Nat) (x5 : Int32) (v6 : AV) (v7 : AV) (v8 : AV) (y0 : Int32) (dl : DL) (h : AH) : Run sc n_L_law 274 [aC c0, aD p1, aD p2, aD p3, aD p4, aI x5, v6, v7, v8] dl [aI y0] h = bI (rOK sc h (aD p2) 12 = true) (bC (Call sc n_X10_clear [aD p2] h) (fun v z => Run sc n_L_law 278 [aC c0, aD p1, aD p2, aD p3, aD p4, aI x5, v6, v7, v8] dl (v.toList ++ [aI y0]) z) (fun E z => some (.inr E, z))) := by
  refine (s_go mt_L_law dL_law_274 rfl).trans ?_
  exact q_cV mt_L_law dL_law_275 rfl mt_X10_clear rfl rfl rfl
theorem e_L_law_287 (sc : SC) (c0 : Nat) (p1 : Nat) (p2 : Nat) (p3 : Nat) (p4 : Nat) (x5 : Int32) (v6 : AV) (v7 : AV) (v8 : AV) (y0 : Int32) (dl : DL) (h : AH) : Run sc n_L_law 287 [aC c0, aD p1, aD p2, aD p3, aD p4, aI x5, v6, v7, v8] dl [aI y0] h = bI (rOK sc h (aD p2) 12 = true) (bC (Call sc n_X10_instructions [aD p2] h) (fun v z => Run sc n_L_law 291 [aC c0, aD p1, aD p2, aD p3, aD p4, aI x5, v6, v7, v8] dl (v.toList ++ [aI y0]) z) (fun E z => some (.inr E, z))) := by
  refine (s_go mt_L_law dL_law_287 rfl).trans ?_
  exact q_cV mt_L_law dL_law_288 rfl mt_X10_instructions rfl rfl rfl
theorem e_L_law_303 (sc : SC) (c0 : Nat) (p1 : Nat) (p2 : Nat) (p3 : Nat) (p4 : Nat) (x5 : Int32) (v6 : AV) (v7 : AV) (v8 : AV) (q0 : Nat) (y1 : Int32) (dl : DL) (h : AH) : Run sc n_L_law 303 [aC c0, aD p1, aD p2, aD p3, aD p4, aI x5, v6, v7, v8] dl [aI y1, aD q0] h = bO (ldI sc h (fun t => t == 0) (aC c0) (x5 + (nI 2))) (fun z => Run sc n_L_law 309 [aC c0, aD p1, aD p2, aD p3, aD p4, aI x5, v6, v7, v8] dl [aI z, aI y1, aD q0] h) := by
  refine (s_go mt_L_law dL_law_303 rfl).trans ?_
  refine (s_go mt_L_law dL_law_304 rfl).trans ?_
  refine (s_go mt_L_law dL_law_306 rfl).trans ?_
  refine (s_go mt_L_law dL_law_307 rfl).trans ?_
  exact q_iaload mt_L_law dL_law_308
theorem e_L_law_352 (sc : SC) (c0 : Nat) (p1 : Nat) (p2 : Nat) (p3 : Nat) (p4 : Nat) (x5 : Int32) (x6 : Int32) (x7 : Int32) (v8 : AV) (l0 : Int64) (dl : DL) (h : AH) : Run sc n_L_law 352 [aC c0, aD p1, aD p2, aD p3, aD p4, aI x5, aI x6, aI x7, v8] dl [aL l0] h = Run sc n_L_law (if (if l0 < ((x7).toInt64) then (-1 : Int32) else if l0 = ((x7).toInt64) then 0 else 1) = 0 then 361 else 359) [aC c0, aD p1, aD p2, aD p3, aD p4, aI x5, aI x6, aI x7, v8] dl [] h := by
  refine (s_go mt_L_law dL_law_352 rfl).trans ?_
  refine (s_go mt_L_law dL_law_354 rfl).trans ?_
  refine (s_go mt_L_law dL_law_355 rfl).trans ?_
  exact q_if mt_L_law dL_law_356 (fun _ _ _ _ => rfl) rfl
theorem e_L_law_368 (sc : SC) (c0 : Nat) (p1 : Nat) (p2 : Nat) (p3 : Nat) (p4 : Nat) (x5 : Int32) (v6 : AV) (v7 : AV) (v8 : AV) (y0 : Int32) (dl : DL) (h : AH) : Run sc n_L_law 368 [aC c0, aD p1, aD p2, aD p3, aD p4, aI x5, v6, v7, v8] dl [aI y0] h = bI (rOK sc h (aD p2) 12 = true) (bC (Call sc n_X10_expand [aD p2] h) (fun v z => Run sc n_L_law 372 [aC c0, aD p1, aD p2, aD p3, aD p4, aI x5, v6, v7, v8] dl (v.toList ++ [aI y0]) z) (fun E z => some (.inr E, z))) := by
  refine (s_go mt_L_law dL_law_368 rfl).trans ?_
  exact q_cV mt_L_law dL_law_369 rfl mt_X10_expand rfl rfl rfl
theorem e_L_law_381 (sc : SC) (c0 : Nat) (p1 : Nat) (p2 : Nat) (p3 : Nat) (p4 : Nat) (x5 : Int32) (v6 : AV) (v7 : AV) (v8 : AV) (y0 : Int32) (dl : DL) (h : AH) : Run sc n_L_law 381 [aC c0, aD p1, aD p2, aD p3, aD p4, aI x5, v6, v7, v8] dl [aI y0] h = bI (rOK sc h (aD p2) 12 = true) (bC (Call sc n_X10_entries [aD p2] h) (fun v z => Run sc n_L_law 385 [aC c0, aD p1, aD p2, aD p3, aD p4, aI x5, v6, v7, v8] dl (v.toList ++ [aI y0]) z) (fun E z => some (.inr E, z))) := by
  refine (s_go mt_L_law dL_law_381 rfl).trans ?_
  exact q_cV mt_L_law dL_law_382 rfl mt_X10_entries rfl rfl rfl
theorem e_L_law_397 (sc : SC) (c0 : Nat) (p1 : Nat) (p2 : Nat) (p3 : Nat) (p4 : Nat) (x5 : Int32) (v6 : AV) (v7 : AV) (v8 : AV) (q0 : Nat) (y1 : Int32) (dl : DL) (h : AH) : Run sc n_L_law 397 [aC c0, aD p1, aD p2, aD p3, aD p4, aI x5, v6, v7, v8] dl [aI y1, aD q0] h = bO (ldI sc h (fun t => t == 0) (aC c0) (x5 + (nI 2))) (fun z => Run sc n_L_law 403 [aC c0, aD p1, aD p2, aD p3, aD p4, aI x5, v6, v7, v8] dl [aI z, aI y1, aD q0] h) := by
  refine (s_go mt_L_law dL_law_397 rfl).trans ?_
  refine (s_go mt_L_law dL_law_398 rfl).trans ?_
  refine (s_go mt_L_law dL_law_400 rfl).trans ?_
  refine (s_go mt_L_law dL_law_401 rfl).trans ?_
  exact q_iaload mt_L_law dL_law_402
theorem e_L_law_446 (sc : SC) (c0 : Nat) (p1 : Nat) (p2 : Nat) (p3 : Nat) (p4 : Nat) (x5 : Int32) (x6 : Int32) (x7 : Int32) (v8 : AV) (l0 : Int64) (dl : DL) (h : AH) : Run sc n_L_law 446 [aC c0, aD p1, aD p2, aD p3, aD p4, aI x5, aI x6, aI x7, v8] dl [aL l0] h = Run sc n_L_law (if (if l0 < ((x7).toInt64) then (-1 : Int32) else if l0 = ((x7).toInt64) then 0 else 1) = 0 then 455 else 453) [aC c0, aD p1, aD p2, aD p3, aD p4, aI x5, aI x6, aI x7, v8] dl [] h := by
  refine (s_go mt_L_law dL_law_446 rfl).trans ?_
  refine (s_go mt_L_law dL_law_448 rfl).trans ?_
  refine (s_go mt_L_law dL_law_449 rfl).trans ?_
  exact q_if mt_L_law dL_law_450 (fun _ _ _ _ => rfl) rfl
theorem e_L_law_465 (sc : SC) (c0 : Nat) (p1 : Nat) (p2 : Nat) (p3 : Nat) (p4 : Nat) (x5 : Int32) (v6 : AV) (v7 : AV) (v8 : AV) (q0 : Nat) (y1 : Int32) (dl : DL) (h : AH) : Run sc n_L_law 465 [aC c0, aD p1, aD p2, aD p3, aD p4, aI x5, v6, v7, v8] dl [aI y1, aD q0] h = bC (Call sc n_L_count [aD q0, aI y1, aD p3] h) (fun v z => Run sc n_L_law 469 [aC c0, aD p1, aD p2, aD p3, aD p4, aI x5, v6, v7, v8] dl (v.toList ++ []) z) (fun _ _ => none) := by
  refine (s_go mt_L_law dL_law_465 rfl).trans ?_
  exact q_cSD mt_L_law dL_law_466 rfl mt_L_count rfl
theorem e_L_law_502 (sc : SC) (c0 : Nat) (p1 : Nat) (p2 : Nat) (p3 : Nat) (p4 : Nat) (x5 : Int32) (x6 : Int32) (x7 : Int32) (v8 : AV) (l0 : Int64) (dl : DL) (h : AH) : Run sc n_L_law 502 [aC c0, aD p1, aD p2, aD p3, aD p4, aI x5, aI x6, aI x7, v8] dl [aL l0] h = Run sc n_L_law (if (if l0 < ((x7).toInt64) then (-1 : Int32) else if l0 = ((x7).toInt64) then 0 else 1) = 0 then 511 else 509) [aC c0, aD p1, aD p2, aD p3, aD p4, aI x5, aI x6, aI x7, v8] dl [] h := by
  refine (s_go mt_L_law dL_law_502 rfl).trans ?_
  refine (s_go mt_L_law dL_law_504 rfl).trans ?_
  refine (s_go mt_L_law dL_law_505 rfl).trans ?_
  exact q_if mt_L_law dL_law_506 (fun _ _ _ _ => rfl) rfl
theorem e_L_law_521 (sc : SC) (c0 : Nat) (p1 : Nat) (p2 : Nat) (p3 : Nat) (p4 : Nat) (x5 : Int32) (v6 : AV) (v7 : AV) (v8 : AV) (q0 : Nat) (y1 : Int32) (dl : DL) (h : AH) : Run sc n_L_law 521 [aC c0, aD p1, aD p2, aD p3, aD p4, aI x5, v6, v7, v8] dl [aI y1, aD q0] h = bC (Call sc n_L_live [aD q0, aI y1, aD p3] h) (fun v z => Run sc n_L_law 525 [aC c0, aD p1, aD p2, aD p3, aD p4, aI x5, v6, v7, v8] dl (v.toList ++ []) z) (fun _ _ => none) := by
  refine (s_go mt_L_law dL_law_521 rfl).trans ?_
  exact q_cSD mt_L_law dL_law_522 rfl mt_L_live rfl
theorem e_L_law_558 (sc : SC) (c0 : Nat) (p1 : Nat) (p2 : Nat) (p3 : Nat) (p4 : Nat) (x5 : Int32) (x6 : Int32) (x7 : Int32) (v8 : AV) (l0 : Int64) (dl : DL) (h : AH) : Run sc n_L_law 558 [aC c0, aD p1, aD p2, aD p3, aD p4, aI x5, aI x6, aI x7, v8] dl [aL l0] h = Run sc n_L_law (if (if l0 < ((x7).toInt64) then (-1 : Int32) else if l0 = ((x7).toInt64) then 0 else 1) = 0 then 567 else 565) [aC c0, aD p1, aD p2, aD p3, aD p4, aI x5, aI x6, aI x7, v8] dl [] h := by
  refine (s_go mt_L_law dL_law_558 rfl).trans ?_
  refine (s_go mt_L_law dL_law_560 rfl).trans ?_
  refine (s_go mt_L_law dL_law_561 rfl).trans ?_
  exact q_if mt_L_law dL_law_562 (fun _ _ _ _ => rfl) rfl
theorem e_L_law_577 (sc : SC) (c0 : Nat) (p1 : Nat) (p2 : Nat) (p3 : Nat) (p4 : Nat) (x5 : Int32) (v6 : AV) (v7 : AV) (v8 : AV) (q0 : Nat) (y1 : Int32) (dl : DL) (h : AH) : Run sc n_L_law 577 [aC c0, aD p1, aD p2, aD p3, aD p4, aI x5, v6, v7, v8] dl [aI y1, aD q0] h = bO (ldI sc h (fun t => t == 0) (aC c0) (x5 + (nI 2))) (fun z => Run sc n_L_law 583 [aC c0, aD p1, aD p2, aD p3, aD p4, aI x5, v6, v7, v8] dl [aI z, aI y1, aD q0] h) := by
  refine (s_go mt_L_law dL_law_577 rfl).trans ?_
  refine (s_go mt_L_law dL_law_578 rfl).trans ?_
  refine (s_go mt_L_law dL_law_580 rfl).trans ?_
  refine (s_go mt_L_law dL_law_581 rfl).trans ?_
  exact q_iaload mt_L_law dL_law_582
theorem e_L_law_626 (sc : SC) (c0 : Nat) (p1 : Nat) (p2 : Nat) (p3 : Nat) (p4 : Nat) (x5 : Int32) (x6 : Int32) (x7 : Int32) (v8 : AV) (l0 : Int64) (dl : DL) (h : AH) : Run sc n_L_law 626 [aC c0, aD p1, aD p2, aD p3, aD p4, aI x5, aI x6, aI x7, v8] dl [aL l0] h = Run sc n_L_law (if x7 = 0 then 635 else 631) [aC c0, aD p1, aD p2, aD p3, aD p4, aI x5, aI x6, aI x7, v8] dl [aL l0] h := by
  refine (s_go mt_L_law dL_law_626 rfl).trans ?_
  exact q_if mt_L_law dL_law_628 (fun _ _ _ _ => rfl) rfl
theorem e_L_law_652 (sc : SC) (c0 : Nat) (p1 : Nat) (p2 : Nat) (p3 : Nat) (p4 : Nat) (x5 : Int32) (v6 : AV) (v7 : AV) (v8 : AV) (q0 : Nat) (y1 : Int32) (dl : DL) (h : AH) : Run sc n_L_law 652 [aC c0, aD p1, aD p2, aD p3, aD p4, aI x5, v6, v7, v8] dl [aI y1, aD q0] h = bO (ldI sc h (fun t => t == 0) (aC c0) (x5 + (nI 2))) (fun z => Run sc n_L_law 658 [aC c0, aD p1, aD p2, aD p3, aD p4, aI x5, v6, v7, v8] dl [aI z, aI y1, aD q0] h) := by
  refine (s_go mt_L_law dL_law_652 rfl).trans ?_
  refine (s_go mt_L_law dL_law_653 rfl).trans ?_
  refine (s_go mt_L_law dL_law_655 rfl).trans ?_
  refine (s_go mt_L_law dL_law_656 rfl).trans ?_
  exact q_iaload mt_L_law dL_law_657
theorem e_L_law_701 (sc : SC) (c0 : Nat) (p1 : Nat) (p2 : Nat) (p3 : Nat) (p4 : Nat) (x5 : Int32) (x6 : Int32) (x7 : Int32) (v8 : AV) (l0 : Int64) (dl : DL) (h : AH) : Run sc n_L_law 701 [aC c0, aD p1, aD p2, aD p3, aD p4, aI x5, aI x6, aI x7, v8] dl [aL l0] h = Run sc n_L_law (if (if l0 < ((x7).toInt64) then (-1 : Int32) else if l0 = ((x7).toInt64) then 0 else 1) = 0 then 710 else 708) [aC c0, aD p1, aD p2, aD p3, aD p4, aI x5, aI x6, aI x7, v8] dl [] h := by
  refine (s_go mt_L_law dL_law_701 rfl).trans ?_
  refine (s_go mt_L_law dL_law_703 rfl).trans ?_
  refine (s_go mt_L_law dL_law_704 rfl).trans ?_
  exact q_if mt_L_law dL_law_705 (fun _ _ _ _ => rfl) rfl
theorem e_L_law_720 (sc : SC) (c0 : Nat) (p1 : Nat) (p2 : Nat) (p3 : Nat) (p4 : Nat) (x5 : Int32) (v6 : AV) (v7 : AV) (v8 : AV) (q0 : Nat) (y1 : Int32) (dl : DL) (h : AH) : Run sc n_L_law 720 [aC c0, aD p1, aD p2, aD p3, aD p4, aI x5, v6, v7, v8] dl [aI y1, aD q0] h = bO (ldI sc h (fun t => t == 0) (aC c0) (x5 + (nI 2))) (fun z => Run sc n_L_law 726 [aC c0, aD p1, aD p2, aD p3, aD p4, aI x5, v6, v7, v8] dl [aI z, aI y1, aD q0] h) := by
  refine (s_go mt_L_law dL_law_720 rfl).trans ?_
  refine (s_go mt_L_law dL_law_721 rfl).trans ?_
  refine (s_go mt_L_law dL_law_723 rfl).trans ?_
  refine (s_go mt_L_law dL_law_724 rfl).trans ?_
  exact q_iaload mt_L_law dL_law_725
theorem e_L_law_769 (sc : SC) (c0 : Nat) (p1 : Nat) (p2 : Nat) (p3 : Nat) (p4 : Nat) (x5 : Int32) (x6 : Int32) (x7 : Int32) (v8 : AV) (l0 : Int64) (dl : DL) (h : AH) : Run sc n_L_law 769 [aC c0, aD p1, aD p2, aD p3, aD p4, aI x5, aI x6, aI x7, v8] dl [aL l0] h = Run sc n_L_law (if (if l0 < ((x7).toInt64) then (-1 : Int32) else if l0 = ((x7).toInt64) then 0 else 1) = 0 then 778 else 776) [aC c0, aD p1, aD p2, aD p3, aD p4, aI x5, aI x6, aI x7, v8] dl [] h := by
  refine (s_go mt_L_law dL_law_769 rfl).trans ?_
  refine (s_go mt_L_law dL_law_771 rfl).trans ?_
  refine (s_go mt_L_law dL_law_772 rfl).trans ?_
  exact q_if mt_L_law dL_law_773 (fun _ _ _ _ => rfl) rfl
theorem e_L_law_788 (sc : SC) (c0 : Nat) (p1 : Nat) (p2 : Nat) (p3 : Nat) (p4 : Nat) (x5 : Int32) (v6 : AV) (v7 : AV) (v8 : AV) (q0 : Nat) (y1 : Int32) (dl : DL) (h : AH) : Run sc n_L_law 788 [aC c0, aD p1, aD p2, aD p3, aD p4, aI x5, v6, v7, v8] dl [aI y1, aD q0] h = bO (ldI sc h (fun t => t == 0) (aC c0) (x5 + (nI 2))) (fun z => Run sc n_L_law 794 [aC c0, aD p1, aD p2, aD p3, aD p4, aI x5, v6, v7, v8] dl [aI z, aI y1, aD q0] h) := by
  refine (s_go mt_L_law dL_law_788 rfl).trans ?_
  refine (s_go mt_L_law dL_law_789 rfl).trans ?_
  refine (s_go mt_L_law dL_law_791 rfl).trans ?_
  refine (s_go mt_L_law dL_law_792 rfl).trans ?_
  exact q_iaload mt_L_law dL_law_793
theorem e_L_law_837 (sc : SC) (c0 : Nat) (p1 : Nat) (p2 : Nat) (p3 : Nat) (p4 : Nat) (x5 : Int32) (x6 : Int32) (x7 : Int32) (v8 : AV) (l0 : Int64) (dl : DL) (h : AH) : Run sc n_L_law 837 [aC c0, aD p1, aD p2, aD p3, aD p4, aI x5, aI x6, aI x7, v8] dl [aL l0] h = Run sc n_L_law (if (if l0 < ((x7).toInt64) then (-1 : Int32) else if l0 = ((x7).toInt64) then 0 else 1) = 0 then 846 else 844) [aC c0, aD p1, aD p2, aD p3, aD p4, aI x5, aI x6, aI x7, v8] dl [] h := by
  refine (s_go mt_L_law dL_law_837 rfl).trans ?_
  refine (s_go mt_L_law dL_law_839 rfl).trans ?_
  refine (s_go mt_L_law dL_law_840 rfl).trans ?_
  exact q_if mt_L_law dL_law_841 (fun _ _ _ _ => rfl) rfl
theorem e_L_law_854 (sc : SC) (c0 : Nat) (p1 : Nat) (p2 : Nat) (p3 : Nat) (p4 : Nat) (x5 : Int32) (v6 : AV) (v7 : AV) (v8 : AV) (y0 : Int32) (dl : DL) (h : AH) : Run sc n_L_law 854 [aC c0, aD p1, aD p2, aD p3, aD p4, aI x5, v6, v7, v8] dl [aI y0] h = bI (rOK sc h (aD p2) 12 = true) (bC (Call sc n_X10_undo [aD p2] h) (fun v z => Run sc n_L_law 860 [aC c0, aD p1, aD p2, aD p3, aD p4, aI x5, aI y0, v7, v8] (dlc 6 dl) (v.toList ++ []) z) (fun E z => some (.inr E, z))) := by
  refine (s_go mt_L_law dL_law_854 rfl).trans ?_
  refine (s_go mt_L_law dL_law_856 rfl).trans ?_
  exact q_cV mt_L_law dL_law_857 rfl mt_X10_undo rfl rfl rfl
theorem e_L_law_881 (sc : SC) (c0 : Nat) (p1 : Nat) (p2 : Nat) (p3 : Nat) (p4 : Nat) (x5 : Int32) (x6 : Int32) (x7 : Int32) (v8 : AV) (l0 : Int64) (dl : DL) (h : AH) : Run sc n_L_law 881 [aC c0, aD p1, aD p2, aD p3, aD p4, aI x5, aI x6, aI x7, v8] dl [aL l0] h = Run sc n_L_law (if (if l0 < ((x7).toInt64) then (-1 : Int32) else if l0 = ((x7).toInt64) then 0 else 1) = 0 then 890 else 888) [aC c0, aD p1, aD p2, aD p3, aD p4, aI x5, aI x6, aI x7, v8] dl [] h := by
  refine (s_go mt_L_law dL_law_881 rfl).trans ?_
  refine (s_go mt_L_law dL_law_883 rfl).trans ?_
  refine (s_go mt_L_law dL_law_884 rfl).trans ?_
  exact q_if mt_L_law dL_law_885 (fun _ _ _ _ => rfl) rfl
theorem e_L_law_897 (sc : SC) (c0 : Nat) (p1 : Nat) (p2 : Nat) (p3 : Nat) (p4 : Nat) (x5 : Int32) (v6 : AV) (v7 : AV) (v8 : AV) (y0 : Int32) (dl : DL) (h : AH) : Run sc n_L_law 897 [aC c0, aD p1, aD p2, aD p3, aD p4, aI x5, v6, v7, v8] dl [aI y0] h = bI (rOK sc h (aD p2) 12 = true) (bC (Call sc n_X10_write [aD p2] h) (fun v z => Run sc n_L_law 901 [aC c0, aD p1, aD p2, aD p3, aD p4, aI x5, v6, v7, v8] dl (v.toList ++ [aI y0]) z) (fun E z => some (.inr E, z))) := by
  refine (s_go mt_L_law dL_law_897 rfl).trans ?_
  exact q_cV mt_L_law dL_law_898 rfl mt_X10_write rfl rfl rfl
theorem e_L_law_913 (sc : SC) (c0 : Nat) (p1 : Nat) (p2 : Nat) (p3 : Nat) (p4 : Nat) (x5 : Int32) (v6 : AV) (v7 : AV) (v8 : AV) (q0 : Nat) (y1 : Int32) (dl : DL) (h : AH) : Run sc n_L_law 913 [aC c0, aD p1, aD p2, aD p3, aD p4, aI x5, v6, v7, v8] dl [aI y1, aD q0] h = bC (Call sc n_L_text [aD q0, aI y1, aD p3] h) (fun v z => Run sc n_L_law 917 [aC c0, aD p1, aD p2, aD p3, aD p4, aI x5, v6, v7, v8] dl (v.toList ++ []) z) (fun _ _ => none) := by
  refine (s_go mt_L_law dL_law_913 rfl).trans ?_
  exact q_cSD mt_L_law dL_law_914 rfl mt_L_text rfl
theorem e_L_law_950 (sc : SC) (c0 : Nat) (p1 : Nat) (p2 : Nat) (p3 : Nat) (p4 : Nat) (x5 : Int32) (x6 : Int32) (x7 : Int32) (v8 : AV) (l0 : Int64) (dl : DL) (h : AH) : Run sc n_L_law 950 [aC c0, aD p1, aD p2, aD p3, aD p4, aI x5, aI x6, aI x7, v8] dl [aL l0] h = Run sc n_L_law (if (if l0 < ((x7).toInt64) then (-1 : Int32) else if l0 = ((x7).toInt64) then 0 else 1) = 0 then 959 else 957) [aC c0, aD p1, aD p2, aD p3, aD p4, aI x5, aI x6, aI x7, v8] dl [] h := by
  refine (s_go mt_L_law dL_law_950 rfl).trans ?_
  refine (s_go mt_L_law dL_law_952 rfl).trans ?_
  refine (s_go mt_L_law dL_law_953 rfl).trans ?_
  exact q_if mt_L_law dL_law_954 (fun _ _ _ _ => rfl) rfl
theorem e_L_law_969 (sc : SC) (c0 : Nat) (p1 : Nat) (p2 : Nat) (p3 : Nat) (p4 : Nat) (x5 : Int32) (v6 : AV) (v7 : AV) (v8 : AV) (q0 : Nat) (y1 : Int32) (dl : DL) (h : AH) : Run sc n_L_law 969 [aC c0, aD p1, aD p2, aD p3, aD p4, aI x5, v6, v7, v8] dl [aI y1, aD q0] h = Run sc n_L_law (if y1 = 0 then 976 else 972) [aC c0, aD p1, aD p2, aD p3, aD p4, aI x5, v6, v7, v8] dl [aD q0] h := by
  exact q_if mt_L_law dL_law_969 (fun _ _ _ _ => rfl) rfl
theorem e_L_law_983 (sc : SC) (c0 : Nat) (p1 : Nat) (p2 : Nat) (p3 : Nat) (p4 : Nat) (x5 : Int32) (v6 : AV) (v7 : AV) (v8 : AV) (q0 : Nat) (y1 : Int32) (y2 : Int32) (dl : DL) (h : AH) : Run sc n_L_law 983 [aC c0, aD p1, aD p2, aD p3, aD p4, aI x5, v6, v7, v8] dl [aI y2, aI y1, aD q0] h = bO (ldI sc h (fun t => t == 0) (aC c0) (x5 + (nI 3))) (fun z => Run sc n_L_law 989 [aC c0, aD p1, aD p2, aD p3, aD p4, aI x5, v6, v7, v8] dl [aI z, aI y2, aI y1, aD q0] h) := by
  refine (s_go mt_L_law dL_law_983 rfl).trans ?_
  refine (s_go mt_L_law dL_law_984 rfl).trans ?_
  refine (s_go mt_L_law dL_law_986 rfl).trans ?_
  refine (s_go mt_L_law dL_law_987 rfl).trans ?_
  exact q_iaload mt_L_law dL_law_988
theorem e_L_law_1016 (sc : SC) (c0 : Nat) (p1 : Nat) (p2 : Nat) (p3 : Nat) (p4 : Nat) (x5 : Int32) (x6 : Int32) (v7 : AV) (v8 : AV) (q0 : Nat) (y1 : Int32) (y2 : Int32) (dl : DL) (h : AH) : Run sc n_L_law 1016 [aC c0, aD p1, aD p2, aD p3, aD p4, aI x5, aI x6, v7, v8] dl [aI y2, aI y1, aD q0] h = bO (ldI sc h (fun t => t == 0) (aC c0) (x5 + (nI 3))) (fun z => Run sc n_L_law 1022 [aC c0, aD p1, aD p2, aD p3, aD p4, aI x5, aI x6, v7, v8] dl [aI z, aI y2, aI y1, aD q0] h) := by
  refine (s_go mt_L_law dL_law_1016 rfl).trans ?_
  refine (s_go mt_L_law dL_law_1017 rfl).trans ?_
  refine (s_go mt_L_law dL_law_1019 rfl).trans ?_
  refine (s_go mt_L_law dL_law_1020 rfl).trans ?_
  exact q_iaload mt_L_law dL_law_1021
theorem e_L_law_1046 (sc : SC) (c0 : Nat) (p1 : Nat) (p2 : Nat) (p3 : Nat) (p4 : Nat) (x5 : Int32) (x6 : Int32) (x7 : Int32) (v8 : AV) (l0 : Int64) (dl : DL) (h : AH) : Run sc n_L_law 1046 [aC c0, aD p1, aD p2, aD p3, aD p4, aI x5, aI x6, aI x7, v8] dl [aL l0] h = Run sc n_L_law (if (if l0 < ((x7).toInt64) then (-1 : Int32) else if l0 = ((x7).toInt64) then 0 else 1) = 0 then 1055 else 1053) [aC c0, aD p1, aD p2, aD p3, aD p4, aI x5, aI x6, aI x7, v8] dl [] h := by
  refine (s_go mt_L_law dL_law_1046 rfl).trans ?_
  refine (s_go mt_L_law dL_law_1048 rfl).trans ?_
  refine (s_go mt_L_law dL_law_1049 rfl).trans ?_
  exact q_if mt_L_law dL_law_1050 (fun _ _ _ _ => rfl) rfl
theorem e_L_law_1065 (sc : SC) (c0 : Nat) (p1 : Nat) (p2 : Nat) (p3 : Nat) (p4 : Nat) (x5 : Int32) (v6 : AV) (v7 : AV) (v8 : AV) (q0 : Nat) (y1 : Int32) (dl : DL) (h : AH) : Run sc n_L_law 1065 [aC c0, aD p1, aD p2, aD p3, aD p4, aI x5, v6, v7, v8] dl [aI y1, aD q0] h = Run sc n_L_law (if y1 = 0 then 1072 else 1068) [aC c0, aD p1, aD p2, aD p3, aD p4, aI x5, v6, v7, v8] dl [aD q0] h := by
  exact q_if mt_L_law dL_law_1065 (fun _ _ _ _ => rfl) rfl
theorem e_L_law_1079 (sc : SC) (c0 : Nat) (p1 : Nat) (p2 : Nat) (p3 : Nat) (p4 : Nat) (x5 : Int32) (v6 : AV) (v7 : AV) (v8 : AV) (q0 : Nat) (y1 : Int32) (y2 : Int32) (dl : DL) (h : AH) : Run sc n_L_law 1079 [aC c0, aD p1, aD p2, aD p3, aD p4, aI x5, v6, v7, v8] dl [aI y2, aI y1, aD q0] h = bC (Call sc n_L_run [aD q0, aI y1, aI y2, aD p3] h) (fun v z => Run sc n_L_law 1083 [aC c0, aD p1, aD p2, aD p3, aD p4, aI x5, v6, v7, v8] dl (v.toList ++ []) z) (fun _ _ => none) := by
  refine (s_go mt_L_law dL_law_1079 rfl).trans ?_
  exact q_cSD mt_L_law dL_law_1080 rfl mt_L_run rfl
theorem e_L_law_1106 (sc : SC) (c0 : Nat) (p1 : Nat) (p2 : Nat) (p3 : Nat) (p4 : Nat) (x5 : Int32) (x6 : Int32) (v7 : AV) (v8 : AV) (q0 : Nat) (y1 : Int32) (y2 : Int32) (dl : DL) (h : AH) : Run sc n_L_law 1106 [aC c0, aD p1, aD p2, aD p3, aD p4, aI x5, aI x6, v7, v8] dl [aI y2, aI y1, aD q0] h = bI (rOK sc h (aD q0) 12 = true) (bC (Call sc n_X10_run [aD q0, aI y1, aI y2] h) (fun v z => Run sc n_L_law 1109 [aC c0, aD p1, aD p2, aD p3, aD p4, aI x5, aI x6, v7, v8] dl (v.toList ++ []) z) (fun E z => some (.inr E, z))) := by
  exact q_cV mt_L_law dL_law_1106 rfl mt_X10_run rfl rfl rfl
theorem e_L_law_1130 (sc : SC) (c0 : Nat) (p1 : Nat) (p2 : Nat) (p3 : Nat) (p4 : Nat) (x5 : Int32) (x6 : Int32) (x7 : Int32) (v8 : AV) (l0 : Int64) (dl : DL) (h : AH) : Run sc n_L_law 1130 [aC c0, aD p1, aD p2, aD p3, aD p4, aI x5, aI x6, aI x7, v8] dl [aL l0] h = Run sc n_L_law (if (if l0 < ((x7).toInt64) then (-1 : Int32) else if l0 = ((x7).toInt64) then 0 else 1) = 0 then 1139 else 1137) [aC c0, aD p1, aD p2, aD p3, aD p4, aI x5, aI x6, aI x7, v8] dl [] h := by
  refine (s_go mt_L_law dL_law_1130 rfl).trans ?_
  refine (s_go mt_L_law dL_law_1132 rfl).trans ?_
  refine (s_go mt_L_law dL_law_1133 rfl).trans ?_
  exact q_if mt_L_law dL_law_1134 (fun _ _ _ _ => rfl) rfl
theorem e_L_law_1149 (sc : SC) (c0 : Nat) (p1 : Nat) (p2 : Nat) (p3 : Nat) (p4 : Nat) (x5 : Int32) (v6 : AV) (v7 : AV) (v8 : AV) (q0 : Nat) (y1 : Int32) (dl : DL) (h : AH) : Run sc n_L_law 1149 [aC c0, aD p1, aD p2, aD p3, aD p4, aI x5, v6, v7, v8] dl [aI y1, aD q0] h = Run sc n_L_law (if y1 = 0 then 1156 else 1152) [aC c0, aD p1, aD p2, aD p3, aD p4, aI x5, v6, v7, v8] dl [aD q0] h := by
  exact q_if mt_L_law dL_law_1149 (fun _ _ _ _ => rfl) rfl
theorem e_L_law_1163 (sc : SC) (c0 : Nat) (p1 : Nat) (p2 : Nat) (p3 : Nat) (p4 : Nat) (x5 : Int32) (v6 : AV) (v7 : AV) (v8 : AV) (q0 : Nat) (y1 : Int32) (y2 : Int32) (dl : DL) (h : AH) : Run sc n_L_law 1163 [aC c0, aD p1, aD p2, aD p3, aD p4, aI x5, v6, v7, v8] dl [aI y2, aI y1, aD q0] h = bC (Call sc n_L_finalValue [aD q0, aI y1, aI y2, aD p3] h) (fun v z => Run sc n_L_law 1167 [aC c0, aD p1, aD p2, aD p3, aD p4, aI x5, v6, v7, v8] dl (v.toList ++ []) z) (fun _ _ => none) := by
  refine (s_go mt_L_law dL_law_1163 rfl).trans ?_
  exact q_cSD mt_L_law dL_law_1164 rfl mt_L_finalValue rfl
theorem e_L_law_1190 (sc : SC) (c0 : Nat) (p1 : Nat) (p2 : Nat) (p3 : Nat) (p4 : Nat) (x5 : Int32) (x6 : Int32) (v7 : AV) (v8 : AV) (q0 : Nat) (y1 : Int32) (y2 : Int32) (dl : DL) (h : AH) : Run sc n_L_law 1190 [aC c0, aD p1, aD p2, aD p3, aD p4, aI x5, aI x6, v7, v8] dl [aI y2, aI y1, aD q0] h = bI (rOK sc h (aD q0) 12 = true) (bC (Call sc n_X10_finalValue [aD q0, aI y1, aI y2] h) (fun v z => Run sc n_L_law 1193 [aC c0, aD p1, aD p2, aD p3, aD p4, aI x5, aI x6, v7, v8] dl (v.toList ++ []) z) (fun E z => some (.inr E, z))) := by
  exact q_cV mt_L_law dL_law_1190 rfl mt_X10_finalValue rfl rfl rfl
theorem e_L_law_1214 (sc : SC) (c0 : Nat) (p1 : Nat) (p2 : Nat) (p3 : Nat) (p4 : Nat) (x5 : Int32) (x6 : Int32) (x7 : Int32) (v8 : AV) (l0 : Int64) (dl : DL) (h : AH) : Run sc n_L_law 1214 [aC c0, aD p1, aD p2, aD p3, aD p4, aI x5, aI x6, aI x7, v8] dl [aL l0] h = Run sc n_L_law (if (if l0 < ((x7).toInt64) then (-1 : Int32) else if l0 = ((x7).toInt64) then 0 else 1) = 0 then 1223 else 1221) [aC c0, aD p1, aD p2, aD p3, aD p4, aI x5, aI x6, aI x7, v8] dl [] h := by
  refine (s_go mt_L_law dL_law_1214 rfl).trans ?_
  refine (s_go mt_L_law dL_law_1216 rfl).trans ?_
  refine (s_go mt_L_law dL_law_1217 rfl).trans ?_
  exact q_if mt_L_law dL_law_1218 (fun _ _ _ _ => rfl) rfl
theorem e_L_law_1231 (sc : SC) (c0 : Nat) (p1 : Nat) (p2 : Nat) (p3 : Nat) (p4 : Nat) (x5 : Int32) (v6 : AV) (v7 : AV) (v8 : AV) (y0 : Int32) (dl : DL) (h : AH) : Run sc n_L_law 1231 [aC c0, aD p1, aD p2, aD p3, aD p4, aI x5, v6, v7, v8] dl [aI y0] h = bI (rOK sc h (aD p2) 12 = true) (bC (Call sc n_X10_outputs [aD p2] h) (fun v z => Run sc n_L_law 1237 [aC c0, aD p1, aD p2, aD p3, aD p4, aI x5, aI y0, v7, v8] (dlc 6 dl) (v.toList ++ []) z) (fun E z => some (.inr E, z))) := by
  refine (s_go mt_L_law dL_law_1231 rfl).trans ?_
  refine (s_go mt_L_law dL_law_1233 rfl).trans ?_
  exact q_cV mt_L_law dL_law_1234 rfl mt_X10_outputs rfl rfl rfl
theorem e_L_law_1258 (sc : SC) (c0 : Nat) (p1 : Nat) (p2 : Nat) (p3 : Nat) (p4 : Nat) (x5 : Int32) (x6 : Int32) (x7 : Int32) (v8 : AV) (l0 : Int64) (dl : DL) (h : AH) : Run sc n_L_law 1258 [aC c0, aD p1, aD p2, aD p3, aD p4, aI x5, aI x6, aI x7, v8] dl [aL l0] h = Run sc n_L_law (if (if l0 < ((x7).toInt64) then (-1 : Int32) else if l0 = ((x7).toInt64) then 0 else 1) = 0 then 1267 else 1265) [aC c0, aD p1, aD p2, aD p3, aD p4, aI x5, aI x6, aI x7, v8] dl [] h := by
  refine (s_go mt_L_law dL_law_1258 rfl).trans ?_
  refine (s_go mt_L_law dL_law_1260 rfl).trans ?_
  refine (s_go mt_L_law dL_law_1261 rfl).trans ?_
  exact q_if mt_L_law dL_law_1262 (fun _ _ _ _ => rfl) rfl
theorem e_L_law_1277 (sc : SC) (c0 : Nat) (p1 : Nat) (p2 : Nat) (p3 : Nat) (p4 : Nat) (x5 : Int32) (v6 : AV) (v7 : AV) (v8 : AV) (q0 : Nat) (y1 : Int32) (dl : DL) (h : AH) : Run sc n_L_law 1277 [aC c0, aD p1, aD p2, aD p3, aD p4, aI x5, v6, v7, v8] dl [aI y1, aD q0] h = bC (Call sc n_L_output [aD q0, aI y1, aD p3] h) (fun v z => Run sc n_L_law 1281 [aC c0, aD p1, aD p2, aD p3, aD p4, aI x5, v6, v7, v8] dl (v.toList ++ []) z) (fun _ _ => none) := by
  refine (s_go mt_L_law dL_law_1277 rfl).trans ?_
  exact q_cSD mt_L_law dL_law_1278 rfl mt_L_output rfl
theorem e_L_law_1314 (sc : SC) (c0 : Nat) (p1 : Nat) (p2 : Nat) (p3 : Nat) (p4 : Nat) (x5 : Int32) (x6 : Int32) (x7 : Int32) (v8 : AV) (l0 : Int64) (dl : DL) (h : AH) : Run sc n_L_law 1314 [aC c0, aD p1, aD p2, aD p3, aD p4, aI x5, aI x6, aI x7, v8] dl [aL l0] h = Run sc n_L_law (if (if l0 < ((x7).toInt64) then (-1 : Int32) else if l0 = ((x7).toInt64) then 0 else 1) = 0 then 1323 else 1321) [aC c0, aD p1, aD p2, aD p3, aD p4, aI x5, aI x6, aI x7, v8] dl [] h := by
  refine (s_go mt_L_law dL_law_1314 rfl).trans ?_
  refine (s_go mt_L_law dL_law_1316 rfl).trans ?_
  refine (s_go mt_L_law dL_law_1317 rfl).trans ?_
  exact q_if mt_L_law dL_law_1318 (fun _ _ _ _ => rfl) rfl
theorem e_L_law_1333 (sc : SC) (c0 : Nat) (p1 : Nat) (p2 : Nat) (p3 : Nat) (p4 : Nat) (x5 : Int32) (v6 : AV) (v7 : AV) (v8 : AV) (q0 : Nat) (y1 : Int32) (dl : DL) (h : AH) : Run sc n_L_law 1333 [aC c0, aD p1, aD p2, aD p3, aD p4, aI x5, v6, v7, v8] dl [aI y1, aD q0] h = bO (ldI sc h (fun t => t == 0) (aC c0) (x5 + (nI 2))) (fun z => Run sc n_L_law 1339 [aC c0, aD p1, aD p2, aD p3, aD p4, aI x5, v6, v7, v8] dl [aI z, aI y1, aD q0] h) := by
  refine (s_go mt_L_law dL_law_1333 rfl).trans ?_
  refine (s_go mt_L_law dL_law_1334 rfl).trans ?_
  refine (s_go mt_L_law dL_law_1336 rfl).trans ?_
  refine (s_go mt_L_law dL_law_1337 rfl).trans ?_
  exact q_iaload mt_L_law dL_law_1338
theorem e_L_law_1382 (sc : SC) (c0 : Nat) (p1 : Nat) (p2 : Nat) (p3 : Nat) (p4 : Nat) (x5 : Int32) (x6 : Int32) (x7 : Int32) (v8 : AV) (l0 : Int64) (dl : DL) (h : AH) : Run sc n_L_law 1382 [aC c0, aD p1, aD p2, aD p3, aD p4, aI x5, aI x6, aI x7, v8] dl [aL l0] h = Run sc n_L_law (if (if l0 < ((x7).toInt64) then (-1 : Int32) else if l0 = ((x7).toInt64) then 0 else 1) = 0 then 1391 else 1389) [aC c0, aD p1, aD p2, aD p3, aD p4, aI x5, aI x6, aI x7, v8] dl [] h := by
  refine (s_go mt_L_law dL_law_1382 rfl).trans ?_
  refine (s_go mt_L_law dL_law_1384 rfl).trans ?_
  refine (s_go mt_L_law dL_law_1385 rfl).trans ?_
  exact q_if mt_L_law dL_law_1386 (fun _ _ _ _ => rfl) rfl
theorem e_L_law_1401 (sc : SC) (c0 : Nat) (p1 : Nat) (p2 : Nat) (p3 : Nat) (p4 : Nat) (x5 : Int32) (v6 : AV) (v7 : AV) (v8 : AV) (q0 : Nat) (y1 : Int32) (dl : DL) (h : AH) : Run sc n_L_law 1401 [aC c0, aD p1, aD p2, aD p3, aD p4, aI x5, v6, v7, v8] dl [aI y1, aD q0] h = bO (ldI sc h (fun t => t == 0) (aC c0) (x5 + (nI 2))) (fun z => Run sc n_L_law 1407 [aC c0, aD p1, aD p2, aD p3, aD p4, aI x5, v6, v7, v8] dl [aI z, aI y1, aD q0] h) := by
  refine (s_go mt_L_law dL_law_1401 rfl).trans ?_
  refine (s_go mt_L_law dL_law_1402 rfl).trans ?_
  refine (s_go mt_L_law dL_law_1404 rfl).trans ?_
  refine (s_go mt_L_law dL_law_1405 rfl).trans ?_
  exact q_iaload mt_L_law dL_law_1406
theorem e_L_law_1452 (sc : SC) (c0 : Nat) (p1 : Nat) (p2 : Nat) (p3 : Nat) (p4 : Nat) (x5 : Int32) (x6 : Int32) (v7 : AV) (v8 : AV) (e0 : UInt64) (e7 : UInt64) (h : AH) : Run sc n_L_law 1452 [aC c0, aD p1, aD p2, aD p3, aD p4, aI x5, aI x6, v7, v8] (some (7, e7)) [aE e0] h = Run sc n_L_law (if (Op.cmpValue (FP.dcmp e0 e7) .l) = 0 then 1480 else 1458) [aC c0, aD p1, aD p2, aD p3, aD p4, aI x5, aI x6, v7, v8] (some (7, e7)) [] h := by
  refine (s_go mt_L_law dL_law_1452 rfl).trans ?_
  refine (s_go mt_L_law dL_law_1454 rfl).trans ?_
  exact q_if mt_L_law dL_law_1455 (fun _ _ _ _ => rfl) rfl
theorem e_L_law_1462 (sc : SC) (c0 : Nat) (p1 : Nat) (p2 : Nat) (p3 : Nat) (p4 : Nat) (x5 : Int32) (x6 : Int32) (v7 : AV) (v8 : AV) (e0 : UInt64) (dl : DL) (h : AH) : Run sc n_L_law 1462 [aC c0, aD p1, aD p2, aD p3, aD p4, aI x5, aI x6, v7, v8] dl [aE e0] h = bO (ldE h p4 (nI 0)) (fun z => Run sc n_L_law 1466 [aC c0, aD p1, aD p2, aD p3, aD p4, aI x5, aI x6, v7, v8] dl [aE z, aE e0] h) := by
  refine (s_go mt_L_law dL_law_1462 rfl).trans ?_
  refine (s_go mt_L_law dL_law_1464 rfl).trans ?_
  exact q_daload mt_L_law dL_law_1465
theorem e_L_law_1489 (sc : SC) (c0 : Nat) (p1 : Nat) (p2 : Nat) (p3 : Nat) (p4 : Nat) (x5 : Int32) (v6 : AV) (v7 : AV) (v8 : AV) (y0 : Int32) (dl : DL) (h : AH) : Run sc n_L_law 1489 [aC c0, aD p1, aD p2, aD p3, aD p4, aI x5, v6, v7, v8] dl [aI y0] h = bI (rOK sc h (aD p2) 12 = true) (bC (Call sc n_X10_filledShare [aD p2] h) (fun v z => Run sc n_L_law 1495 [aC c0, aD p1, aD p2, aD p3, aD p4, aI x5, aI y0, v7, v8] (dlc 6 dl) (v.toList ++ []) z) (fun E z => some (.inr E, z))) := by
  refine (s_go mt_L_law dL_law_1489 rfl).trans ?_
  refine (s_go mt_L_law dL_law_1491 rfl).trans ?_
  exact q_cV mt_L_law dL_law_1492 rfl mt_X10_filledShare rfl rfl rfl
theorem e_L_law_1517 (sc : SC) (c0 : Nat) (p1 : Nat) (p2 : Nat) (p3 : Nat) (p4 : Nat) (x5 : Int32) (x6 : Int32) (f7 : UInt32) (v8 : AV) (e0 : UInt64) (dl : DL) (h : AH) : Run sc n_L_law 1517 [aC c0, aD p1, aD p2, aD p3, aD p4, aI x5, aI x6, aF f7, v8] dl [aE e0] h = bI (FP.f2d f7 &&& 0x7fffffffffffffff ≤ 0x7ff0000000000000) (Run sc n_L_law 1520 [aC c0, aD p1, aD p2, aD p3, aD p4, aI x5, aI x6, aF f7, v8] dl [aE (FP.f2d f7), aE e0] h) := by
  refine (s_go mt_L_law dL_law_1517 rfl).trans ?_
  exact q_f2d mt_L_law dL_law_1519
theorem e_L_law_1528 (sc : SC) (c0 : Nat) (p1 : Nat) (p2 : Nat) (p3 : Nat) (p4 : Nat) (x5 : Int32) (x6 : Int32) (f7 : UInt32) (v8 : AV) (e0 : UInt64) (dl : DL) (h : AH) : Run sc n_L_law 1528 [aC c0, aD p1, aD p2, aD p3, aD p4, aI x5, aI x6, aF f7, v8] dl [aE e0] h = bO (ldE h p4 (nI 0)) (fun z => Run sc n_L_law 1532 [aC c0, aD p1, aD p2, aD p3, aD p4, aI x5, aI x6, aF f7, v8] dl [aE z, aE e0] h) := by
  refine (s_go mt_L_law dL_law_1528 rfl).trans ?_
  refine (s_go mt_L_law dL_law_1530 rfl).trans ?_
  exact q_daload mt_L_law dL_law_1531
theorem e_L_law_1553 (sc : SC) (c0 : Nat) (p1 : Nat) (p2 : Nat) (p3 : Nat) (p4 : Nat) (x5 : Int32) (v6 : AV) (v7 : AV) (v8 : AV) (y0 : Int32) (dl : DL) (h : AH) : Run sc n_L_law 1553 [aC c0, aD p1, aD p2, aD p3, aD p4, aI x5, v6, v7, v8] dl [aI y0] h = bI (rOK sc h (aD p2) 12 = true) (bC (Call sc n_X10_save [aD p2] h) (fun v z => Run sc n_L_law 1557 [aC c0, aD p1, aD p2, aD p3, aD p4, aI x5, v6, v7, v8] dl (v.toList ++ [aI y0]) z) (fun E z => some (.inr E, z))) := by
  refine (s_go mt_L_law dL_law_1553 rfl).trans ?_
  exact q_cV mt_L_law dL_law_1554 rfl mt_X10_save rfl rfl rfl
theorem e_L_law_1567 (sc : SC) (c0 : Nat) (p1 : Nat) (p2 : Nat) (p3 : Nat) (p4 : Nat) (x5 : Int32) (v6 : AV) (v7 : AV) (v8 : AV) (y0 : Int32) (dl : DL) (h : AH) : Run sc n_L_law 1567 [aC c0, aD p1, aD p2, aD p3, aD p4, aI x5, v6, v7, v8] dl [aI y0] h = bI (rOK sc h (aD p2) 12 = true) (bC (Call sc n_X10_restore [aD p2] h) (fun v z => Run sc n_L_law 1573 [aC c0, aD p1, aD p2, aD p3, aD p4, aI x5, aI y0, v7, v8] (dlc 6 dl) (v.toList ++ []) z) (fun E z => some (.inr E, z))) := by
  refine (s_go mt_L_law dL_law_1567 rfl).trans ?_
  refine (s_go mt_L_law dL_law_1569 rfl).trans ?_
  exact q_cV mt_L_law dL_law_1570 rfl mt_X10_restore rfl rfl rfl
theorem e_L_law_1594 (sc : SC) (c0 : Nat) (p1 : Nat) (p2 : Nat) (p3 : Nat) (p4 : Nat) (x5 : Int32) (x6 : Int32) (x7 : Int32) (v8 : AV) (l0 : Int64) (dl : DL) (h : AH) : Run sc n_L_law 1594 [aC c0, aD p1, aD p2, aD p3, aD p4, aI x5, aI x6, aI x7, v8] dl [aL l0] h = Run sc n_L_law (if (if l0 < ((x7).toInt64) then (-1 : Int32) else if l0 = ((x7).toInt64) then 0 else 1) = 0 then 1603 else 1601) [aC c0, aD p1, aD p2, aD p3, aD p4, aI x5, aI x6, aI x7, v8] dl [] h := by
  refine (s_go mt_L_law dL_law_1594 rfl).trans ?_
  refine (s_go mt_L_law dL_law_1596 rfl).trans ?_
  refine (s_go mt_L_law dL_law_1597 rfl).trans ?_
  exact q_if mt_L_law dL_law_1598 (fun _ _ _ _ => rfl) rfl
theorem e_L_law_15 (sc : SC) (c0 : Nat) (p1 : Nat) (v2 : AV) (v3 : AV) (v4 : AV) (v5 : AV) (v6 : AV) (v7 : AV) (v8 : AV) (q0 : Nat) (dl : DL) (h : AH) : Run sc n_L_law 15 [aC c0, aD p1, v2, v3, v4, v5, v6, v7, v8] dl [aD q0] h = bI (¬ ((nI 1) < 0 ∨ 67108864 < (nI 1).toNatClampNeg)) (Run sc n_L_law 19 [aC c0, aD p1, aD q0, v3, v4, v5, v6, v7, v8] (dlc 2 dl) [aD h.1.length] (hpush h (oL (nI 1).toNatClampNeg (fun _ => 0)))) := by
  refine (s_go mt_L_law dL_law_15 rfl).trans ?_
  refine (s_go mt_L_law dL_law_16 rfl).trans ?_
  exact q_newarray (mk := fun m => oL m (fun _ => 0)) mt_L_law dL_law_17 (fun _ => rfl)
theorem e_L_law_180 (sc : SC) (c0 : Nat) (p1 : Nat) (p2 : Nat) (p3 : Nat) (p4 : Nat) (x5 : Int32) (v6 : AV) (v7 : AV) (v8 : AV) (y0 : Int32) (dl : DL) (h : AH) : Run sc n_L_law 180 [aC c0, aD p1, aD p2, aD p3, aD p4, aI x5, v6, v7, v8] dl [aI y0] h = bO (ldI sc h (fun t => t == 0) (aC c0) (x5 + (nI 1))) (fun z => Run sc n_L_law 189 [aC c0, aD p1, aD p2, aD p3, aD p4, aI x5, aI y0, v7, v8] (dlc 6 dl) [aI z, aD p2] h) := by
  refine (s_go mt_L_law dL_law_180 rfl).trans ?_
  refine (s_go mt_L_law dL_law_182 rfl).trans ?_
  refine (s_go mt_L_law dL_law_183 rfl).trans ?_
  refine (s_go mt_L_law dL_law_184 rfl).trans ?_
  refine (s_go mt_L_law dL_law_186 rfl).trans ?_
  refine (s_go mt_L_law dL_law_187 rfl).trans ?_
  exact q_iaload mt_L_law dL_law_188
theorem e_L_law_237 (sc : SC) (c0 : Nat) (p1 : Nat) (p2 : Nat) (p3 : Nat) (p4 : Nat) (x5 : Int32) (x6 : Int32) (v7 : AV) (v8 : AV) (y0 : Int32) (dl : DL) (h : AH) : Run sc n_L_law 237 [aC c0, aD p1, aD p2, aD p3, aD p4, aI x5, aI x6, v7, v8] dl [aI y0] h = bI (rOK sc h (aD p2) 12 = true) (bC (Call sc n_X10_thrown [aD p2] h) (fun v z => Run sc n_L_law 243 [aC c0, aD p1, aD p2, aD p3, aD p4, aI x5, aI x6, aI y0, v8] (dlc 7 dl) (v.toList ++ []) z) (fun E z => some (.inr E, z))) := by
  refine (s_go mt_L_law dL_law_237 rfl).trans ?_
  refine (s_go mt_L_law dL_law_239 rfl).trans ?_
  exact q_cV mt_L_law dL_law_240 rfl mt_X10_thrown rfl rfl rfl
theorem e_L_law_278 (sc : SC) (c0 : Nat) (p1 : Nat) (p2 : Nat) (p3 : Nat) (p4 : Nat) (x5 : Int32) (v6 : AV) (v7 : AV) (v8 : AV) (y0 : Int32) (y1 : Int32) (dl : DL) (h : AH) : Run sc n_L_law 278 [aC c0, aD p1, aD p2, aD p3, aD p4, aI x5, v6, v7, v8] dl [aI y1, aI y0] h = Run sc n_L_law (if y0 = y1 then 1606 else 281) [aC c0, aD p1, aD p2, aD p3, aD p4, aI x5, v6, v7, v8] dl [] h := by
  exact q_icmp mt_L_law dL_law_278 (fun _ _ _ _ => rfl) rfl
theorem e_L_law_291 (sc : SC) (c0 : Nat) (p1 : Nat) (p2 : Nat) (p3 : Nat) (p4 : Nat) (x5 : Int32) (v6 : AV) (v7 : AV) (v8 : AV) (y0 : Int32) (y1 : Int32) (dl : DL) (h : AH) : Run sc n_L_law 291 [aC c0, aD p1, aD p2, aD p3, aD p4, aI x5, v6, v7, v8] dl [aI y1, aI y0] h = Run sc n_L_law (if y0 = y1 then 1606 else 294) [aC c0, aD p1, aD p2, aD p3, aD p4, aI x5, v6, v7, v8] dl [] h := by
  exact q_icmp mt_L_law dL_law_291 (fun _ _ _ _ => rfl) rfl
theorem e_L_law_309 (sc : SC) (c0 : Nat) (p1 : Nat) (p2 : Nat) (p3 : Nat) (p4 : Nat) (x5 : Int32) (v6 : AV) (v7 : AV) (v8 : AV) (q0 : Nat) (y1 : Int32) (y2 : Int32) (dl : DL) (h : AH) : Run sc n_L_law 309 [aC c0, aD p1, aD p2, aD p3, aD p4, aI x5, v6, v7, v8] dl [aI y2, aI y1, aD q0] h = bC (Call sc n_L_instruction [aD q0, aI y1, aI y2, aD p3] h) (fun v z => Run sc n_L_law 313 [aC c0, aD p1, aD p2, aD p3, aD p4, aI x5, v6, v7, v8] dl (v.toList ++ []) z) (fun _ _ => none) := by
  refine (s_go mt_L_law dL_law_309 rfl).trans ?_
  exact q_cSD mt_L_law dL_law_310 rfl mt_L_instruction rfl
theorem e_L_law_372 (sc : SC) (c0 : Nat) (p1 : Nat) (p2 : Nat) (p3 : Nat) (p4 : Nat) (x5 : Int32) (v6 : AV) (v7 : AV) (v8 : AV) (y0 : Int32) (y1 : Int32) (dl : DL) (h : AH) : Run sc n_L_law 372 [aC c0, aD p1, aD p2, aD p3, aD p4, aI x5, v6, v7, v8] dl [aI y1, aI y0] h = Run sc n_L_law (if y0 = y1 then 1606 else 375) [aC c0, aD p1, aD p2, aD p3, aD p4, aI x5, v6, v7, v8] dl [] h := by
  exact q_icmp mt_L_law dL_law_372 (fun _ _ _ _ => rfl) rfl
theorem e_L_law_385 (sc : SC) (c0 : Nat) (p1 : Nat) (p2 : Nat) (p3 : Nat) (p4 : Nat) (x5 : Int32) (v6 : AV) (v7 : AV) (v8 : AV) (y0 : Int32) (y1 : Int32) (dl : DL) (h : AH) : Run sc n_L_law 385 [aC c0, aD p1, aD p2, aD p3, aD p4, aI x5, v6, v7, v8] dl [aI y1, aI y0] h = Run sc n_L_law (if y0 = y1 then 1606 else 388) [aC c0, aD p1, aD p2, aD p3, aD p4, aI x5, v6, v7, v8] dl [] h := by
  exact q_icmp mt_L_law dL_law_385 (fun _ _ _ _ => rfl) rfl
theorem e_L_law_403 (sc : SC) (c0 : Nat) (p1 : Nat) (p2 : Nat) (p3 : Nat) (p4 : Nat) (x5 : Int32) (v6 : AV) (v7 : AV) (v8 : AV) (q0 : Nat) (y1 : Int32) (y2 : Int32) (dl : DL) (h : AH) : Run sc n_L_law 403 [aC c0, aD p1, aD p2, aD p3, aD p4, aI x5, v6, v7, v8] dl [aI y2, aI y1, aD q0] h = bC (Call sc n_L_entry [aD q0, aI y1, aI y2, aD p3] h) (fun v z => Run sc n_L_law 407 [aC c0, aD p1, aD p2, aD p3, aD p4, aI x5, v6, v7, v8] dl (v.toList ++ []) z) (fun _ _ => none) := by
  refine (s_go mt_L_law dL_law_403 rfl).trans ?_
  exact q_cSD mt_L_law dL_law_404 rfl mt_L_entry rfl
theorem e_L_law_469 (sc : SC) (c0 : Nat) (p1 : Nat) (p2 : Nat) (p3 : Nat) (p4 : Nat) (x5 : Int32) (v6 : AV) (v7 : AV) (v8 : AV) (y0 : Int32) (dl : DL) (h : AH) : Run sc n_L_law 469 [aC c0, aD p1, aD p2, aD p3, aD p4, aI x5, v6, v7, v8] dl [aI y0] h = bO (ldI sc h (fun t => t == 0) (aC c0) (x5 + (nI 1))) (fun z => Run sc n_L_law 478 [aC c0, aD p1, aD p2, aD p3, aD p4, aI x5, aI y0, v7, v8] (dlc 6 dl) [aI z, aD p2] h) := by
  refine (s_go mt_L_law dL_law_469 rfl).trans ?_
  refine (s_go mt_L_law dL_law_471 rfl).trans ?_
  refine (s_go mt_L_law dL_law_472 rfl).trans ?_
  refine (s_go mt_L_law dL_law_473 rfl).trans ?_
  refine (s_go mt_L_law dL_law_475 rfl).trans ?_
  refine (s_go mt_L_law dL_law_476 rfl).trans ?_
  exact q_iaload mt_L_law dL_law_477
theorem e_L_law_525 (sc : SC) (c0 : Nat) (p1 : Nat) (p2 : Nat) (p3 : Nat) (p4 : Nat) (x5 : Int32) (v6 : AV) (v7 : AV) (v8 : AV) (y0 : Int32) (dl : DL) (h : AH) : Run sc n_L_law 525 [aC c0, aD p1, aD p2, aD p3, aD p4, aI x5, v6, v7, v8] dl [aI y0] h = bO (ldI sc h (fun t => t == 0) (aC c0) (x5 + (nI 1))) (fun z => Run sc n_L_law 534 [aC c0, aD p1, aD p2, aD p3, aD p4, aI x5, aI y0, v7, v8] (dlc 6 dl) [aI z, aD p2] h) := by
  refine (s_go mt_L_law dL_law_525 rfl).trans ?_
  refine (s_go mt_L_law dL_law_527 rfl).trans ?_
  refine (s_go mt_L_law dL_law_528 rfl).trans ?_
  refine (s_go mt_L_law dL_law_529 rfl).trans ?_
  refine (s_go mt_L_law dL_law_531 rfl).trans ?_
  refine (s_go mt_L_law dL_law_532 rfl).trans ?_
  exact q_iaload mt_L_law dL_law_533
theorem e_L_law_583 (sc : SC) (c0 : Nat) (p1 : Nat) (p2 : Nat) (p3 : Nat) (p4 : Nat) (x5 : Int32) (v6 : AV) (v7 : AV) (v8 : AV) (q0 : Nat) (y1 : Int32) (y2 : Int32) (dl : DL) (h : AH) : Run sc n_L_law 583 [aC c0, aD p1, aD p2, aD p3, aD p4, aI x5, v6, v7, v8] dl [aI y2, aI y1, aD q0] h = bC (Call sc n_L_isIndependent [aD q0, aI y1, aI y2, aD p3] h) (fun v z => Run sc n_L_law 587 [aC c0, aD p1, aD p2, aD p3, aD p4, aI x5, v6, v7, v8] dl (v.toList ++ []) z) (fun _ _ => none) := by
  refine (s_go mt_L_law dL_law_583 rfl).trans ?_
  exact q_cSD mt_L_law dL_law_584 rfl mt_L_isIndependent rfl
theorem e_L_law_658 (sc : SC) (c0 : Nat) (p1 : Nat) (p2 : Nat) (p3 : Nat) (p4 : Nat) (x5 : Int32) (v6 : AV) (v7 : AV) (v8 : AV) (q0 : Nat) (y1 : Int32) (y2 : Int32) (dl : DL) (h : AH) : Run sc n_L_law 658 [aC c0, aD p1, aD p2, aD p3, aD p4, aI x5, v6, v7, v8] dl [aI y2, aI y1, aD q0] h = bC (Call sc n_L_candidate [aD q0, aI y1, aI y2, aD p3] h) (fun v z => Run sc n_L_law 662 [aC c0, aD p1, aD p2, aD p3, aD p4, aI x5, v6, v7, v8] dl (v.toList ++ []) z) (fun _ _ => none) := by
  refine (s_go mt_L_law dL_law_658 rfl).trans ?_
  exact q_cSD mt_L_law dL_law_659 rfl mt_L_candidate rfl
theorem e_L_law_726 (sc : SC) (c0 : Nat) (p1 : Nat) (p2 : Nat) (p3 : Nat) (p4 : Nat) (x5 : Int32) (v6 : AV) (v7 : AV) (v8 : AV) (q0 : Nat) (y1 : Int32) (y2 : Int32) (dl : DL) (h : AH) : Run sc n_L_law 726 [aC c0, aD p1, aD p2, aD p3, aD p4, aI x5, v6, v7, v8] dl [aI y2, aI y1, aD q0] h = bC (Call sc n_L_fill [aD q0, aI y1, aI y2, aD p3] h) (fun v z => Run sc n_L_law 730 [aC c0, aD p1, aD p2, aD p3, aD p4, aI x5, v6, v7, v8] dl (v.toList ++ []) z) (fun _ _ => none) := by
  refine (s_go mt_L_law dL_law_726 rfl).trans ?_
  exact q_cSD mt_L_law dL_law_727 rfl mt_L_fill rfl
theorem e_L_law_794 (sc : SC) (c0 : Nat) (p1 : Nat) (p2 : Nat) (p3 : Nat) (p4 : Nat) (x5 : Int32) (v6 : AV) (v7 : AV) (v8 : AV) (q0 : Nat) (y1 : Int32) (y2 : Int32) (dl : DL) (h : AH) : Run sc n_L_law 794 [aC c0, aD p1, aD p2, aD p3, aD p4, aI x5, v6, v7, v8] dl [aI y2, aI y1, aD q0] h = bC (Call sc n_L_fillAll [aD q0, aI y1, aI y2, aD p3] h) (fun v z => Run sc n_L_law 798 [aC c0, aD p1, aD p2, aD p3, aD p4, aI x5, v6, v7, v8] dl (v.toList ++ []) z) (fun _ _ => none) := by
  refine (s_go mt_L_law dL_law_794 rfl).trans ?_
  exact q_cSD mt_L_law dL_law_795 rfl mt_L_fillAll rfl
theorem e_L_law_860 (sc : SC) (c0 : Nat) (p1 : Nat) (p2 : Nat) (p3 : Nat) (p4 : Nat) (x5 : Int32) (x6 : Int32) (v7 : AV) (v8 : AV) (y0 : Int32) (dl : DL) (h : AH) : Run sc n_L_law 860 [aC c0, aD p1, aD p2, aD p3, aD p4, aI x5, aI x6, v7, v8] dl [aI y0] h = bI (rOK sc h (aD p2) 12 = true) (bC (Call sc n_X10_thrown [aD p2] h) (fun v z => Run sc n_L_law 866 [aC c0, aD p1, aD p2, aD p3, aD p4, aI x5, aI x6, aI y0, v8] (dlc 7 dl) (v.toList ++ []) z) (fun E z => some (.inr E, z))) := by
  refine (s_go mt_L_law dL_law_860 rfl).trans ?_
  refine (s_go mt_L_law dL_law_862 rfl).trans ?_
  exact q_cV mt_L_law dL_law_863 rfl mt_X10_thrown rfl rfl rfl
theorem e_L_law_901 (sc : SC) (c0 : Nat) (p1 : Nat) (p2 : Nat) (p3 : Nat) (p4 : Nat) (x5 : Int32) (v6 : AV) (v7 : AV) (v8 : AV) (y0 : Int32) (y1 : Int32) (dl : DL) (h : AH) : Run sc n_L_law 901 [aC c0, aD p1, aD p2, aD p3, aD p4, aI x5, v6, v7, v8] dl [aI y1, aI y0] h = Run sc n_L_law (if y0 = y1 then 1606 else 904) [aC c0, aD p1, aD p2, aD p3, aD p4, aI x5, v6, v7, v8] dl [] h := by
  exact q_icmp mt_L_law dL_law_901 (fun _ _ _ _ => rfl) rfl
theorem e_L_law_917 (sc : SC) (c0 : Nat) (p1 : Nat) (p2 : Nat) (p3 : Nat) (p4 : Nat) (x5 : Int32) (v6 : AV) (v7 : AV) (v8 : AV) (y0 : Int32) (dl : DL) (h : AH) : Run sc n_L_law 917 [aC c0, aD p1, aD p2, aD p3, aD p4, aI x5, v6, v7, v8] dl [aI y0] h = bO (ldI sc h (fun t => t == 0) (aC c0) (x5 + (nI 1))) (fun z => Run sc n_L_law 926 [aC c0, aD p1, aD p2, aD p3, aD p4, aI x5, aI y0, v7, v8] (dlc 6 dl) [aI z, aD p2] h) := by
  refine (s_go mt_L_law dL_law_917 rfl).trans ?_
  refine (s_go mt_L_law dL_law_919 rfl).trans ?_
  refine (s_go mt_L_law dL_law_920 rfl).trans ?_
  refine (s_go mt_L_law dL_law_921 rfl).trans ?_
  refine (s_go mt_L_law dL_law_923 rfl).trans ?_
  refine (s_go mt_L_law dL_law_924 rfl).trans ?_
  exact q_iaload mt_L_law dL_law_925
theorem e_L_law_989 (sc : SC) (c0 : Nat) (p1 : Nat) (p2 : Nat) (p3 : Nat) (p4 : Nat) (x5 : Int32) (v6 : AV) (v7 : AV) (v8 : AV) (q0 : Nat) (y1 : Int32) (y2 : Int32) (y3 : Int32) (dl : DL) (h : AH) : Run sc n_L_law 989 [aC c0, aD p1, aD p2, aD p3, aD p4, aI x5, v6, v7, v8] dl [aI y3, aI y2, aI y1, aD q0] h = bC (Call sc n_L_setInitial [aD q0, aI y1, aI y2, aI y3, aD p3] h) (fun v z => Run sc n_L_law 993 [aC c0, aD p1, aD p2, aD p3, aD p4, aI x5, v6, v7, v8] dl (v.toList ++ []) z) (fun _ _ => none) := by
  refine (s_go mt_L_law dL_law_989 rfl).trans ?_
  exact q_cSD mt_L_law dL_law_990 rfl mt_L_setInitial rfl
theorem e_L_law_1022 (sc : SC) (c0 : Nat) (p1 : Nat) (p2 : Nat) (p3 : Nat) (p4 : Nat) (x5 : Int32) (x6 : Int32) (v7 : AV) (v8 : AV) (q0 : Nat) (y1 : Int32) (y2 : Int32) (y3 : Int32) (dl : DL) (h : AH) : Run sc n_L_law 1022 [aC c0, aD p1, aD p2, aD p3, aD p4, aI x5, aI x6, v7, v8] dl [aI y3, aI y2, aI y1, aD q0] h = bI (rOK sc h (aD q0) 12 = true) (bC (Call sc n_X10_setInitial [aD q0, aI y1, aI y2, aI y3] h) (fun v z => Run sc n_L_law 1025 [aC c0, aD p1, aD p2, aD p3, aD p4, aI x5, aI x6, v7, v8] dl (v.toList ++ []) z) (fun E z => some (.inr E, z))) := by
  exact q_cV mt_L_law dL_law_1022 rfl mt_X10_setInitial rfl rfl rfl
theorem e_L_law_1083 (sc : SC) (c0 : Nat) (p1 : Nat) (p2 : Nat) (p3 : Nat) (p4 : Nat) (x5 : Int32) (v6 : AV) (v7 : AV) (v8 : AV) (y0 : Int32) (dl : DL) (h : AH) : Run sc n_L_law 1083 [aC c0, aD p1, aD p2, aD p3, aD p4, aI x5, v6, v7, v8] dl [aI y0] h = bO (ldI sc h (fun t => t == 0) (aC c0) (x5 + (nI 1))) (fun z => Run sc n_L_law 1092 [aC c0, aD p1, aD p2, aD p3, aD p4, aI x5, aI y0, v7, v8] (dlc 6 dl) [aI z, aD p2] h) := by
  refine (s_go mt_L_law dL_law_1083 rfl).trans ?_
  refine (s_go mt_L_law dL_law_1085 rfl).trans ?_
  refine (s_go mt_L_law dL_law_1086 rfl).trans ?_
  refine (s_go mt_L_law dL_law_1087 rfl).trans ?_
  refine (s_go mt_L_law dL_law_1089 rfl).trans ?_
  refine (s_go mt_L_law dL_law_1090 rfl).trans ?_
  exact q_iaload mt_L_law dL_law_1091
theorem e_L_law_1109 (sc : SC) (c0 : Nat) (p1 : Nat) (p2 : Nat) (p3 : Nat) (p4 : Nat) (x5 : Int32) (x6 : Int32) (v7 : AV) (v8 : AV) (y0 : Int32) (dl : DL) (h : AH) : Run sc n_L_law 1109 [aC c0, aD p1, aD p2, aD p3, aD p4, aI x5, aI x6, v7, v8] dl [aI y0] h = bI (rOK sc h (aD p2) 12 = true) (bC (Call sc n_X10_thrown [aD p2] h) (fun v z => Run sc n_L_law 1115 [aC c0, aD p1, aD p2, aD p3, aD p4, aI x5, aI x6, aI y0, v8] (dlc 7 dl) (v.toList ++ []) z) (fun E z => some (.inr E, z))) := by
  refine (s_go mt_L_law dL_law_1109 rfl).trans ?_
  refine (s_go mt_L_law dL_law_1111 rfl).trans ?_
  exact q_cV mt_L_law dL_law_1112 rfl mt_X10_thrown rfl rfl rfl
theorem e_L_law_1167 (sc : SC) (c0 : Nat) (p1 : Nat) (p2 : Nat) (p3 : Nat) (p4 : Nat) (x5 : Int32) (v6 : AV) (v7 : AV) (v8 : AV) (y0 : Int32) (dl : DL) (h : AH) : Run sc n_L_law 1167 [aC c0, aD p1, aD p2, aD p3, aD p4, aI x5, v6, v7, v8] dl [aI y0] h = bO (ldI sc h (fun t => t == 0) (aC c0) (x5 + (nI 1))) (fun z => Run sc n_L_law 1176 [aC c0, aD p1, aD p2, aD p3, aD p4, aI x5, aI y0, v7, v8] (dlc 6 dl) [aI z, aD p2] h) := by
  refine (s_go mt_L_law dL_law_1167 rfl).trans ?_
  refine (s_go mt_L_law dL_law_1169 rfl).trans ?_
  refine (s_go mt_L_law dL_law_1170 rfl).trans ?_
  refine (s_go mt_L_law dL_law_1171 rfl).trans ?_
  refine (s_go mt_L_law dL_law_1173 rfl).trans ?_
  refine (s_go mt_L_law dL_law_1174 rfl).trans ?_
  exact q_iaload mt_L_law dL_law_1175
theorem e_L_law_1193 (sc : SC) (c0 : Nat) (p1 : Nat) (p2 : Nat) (p3 : Nat) (p4 : Nat) (x5 : Int32) (x6 : Int32) (v7 : AV) (v8 : AV) (y0 : Int32) (dl : DL) (h : AH) : Run sc n_L_law 1193 [aC c0, aD p1, aD p2, aD p3, aD p4, aI x5, aI x6, v7, v8] dl [aI y0] h = bI (rOK sc h (aD p2) 12 = true) (bC (Call sc n_X10_thrown [aD p2] h) (fun v z => Run sc n_L_law 1199 [aC c0, aD p1, aD p2, aD p3, aD p4, aI x5, aI x6, aI y0, v8] (dlc 7 dl) (v.toList ++ []) z) (fun E z => some (.inr E, z))) := by
  refine (s_go mt_L_law dL_law_1193 rfl).trans ?_
  refine (s_go mt_L_law dL_law_1195 rfl).trans ?_
  exact q_cV mt_L_law dL_law_1196 rfl mt_X10_thrown rfl rfl rfl
theorem e_L_law_1237 (sc : SC) (c0 : Nat) (p1 : Nat) (p2 : Nat) (p3 : Nat) (p4 : Nat) (x5 : Int32) (x6 : Int32) (v7 : AV) (v8 : AV) (y0 : Int32) (dl : DL) (h : AH) : Run sc n_L_law 1237 [aC c0, aD p1, aD p2, aD p3, aD p4, aI x5, aI x6, v7, v8] dl [aI y0] h = bI (rOK sc h (aD p2) 12 = true) (bC (Call sc n_X10_thrown [aD p2] h) (fun v z => Run sc n_L_law 1243 [aC c0, aD p1, aD p2, aD p3, aD p4, aI x5, aI x6, aI y0, v8] (dlc 7 dl) (v.toList ++ []) z) (fun E z => some (.inr E, z))) := by
  refine (s_go mt_L_law dL_law_1237 rfl).trans ?_
  refine (s_go mt_L_law dL_law_1239 rfl).trans ?_
  exact q_cV mt_L_law dL_law_1240 rfl mt_X10_thrown rfl rfl rfl
theorem e_L_law_1281 (sc : SC) (c0 : Nat) (p1 : Nat) (p2 : Nat) (p3 : Nat) (p4 : Nat) (x5 : Int32) (v6 : AV) (v7 : AV) (v8 : AV) (y0 : Int32) (dl : DL) (h : AH) : Run sc n_L_law 1281 [aC c0, aD p1, aD p2, aD p3, aD p4, aI x5, v6, v7, v8] dl [aI y0] h = bO (ldI sc h (fun t => t == 0) (aC c0) (x5 + (nI 1))) (fun z => Run sc n_L_law 1290 [aC c0, aD p1, aD p2, aD p3, aD p4, aI x5, aI y0, v7, v8] (dlc 6 dl) [aI z, aD p2] h) := by
  refine (s_go mt_L_law dL_law_1281 rfl).trans ?_
  refine (s_go mt_L_law dL_law_1283 rfl).trans ?_
  refine (s_go mt_L_law dL_law_1284 rfl).trans ?_
  refine (s_go mt_L_law dL_law_1285 rfl).trans ?_
  refine (s_go mt_L_law dL_law_1287 rfl).trans ?_
  refine (s_go mt_L_law dL_law_1288 rfl).trans ?_
  exact q_iaload mt_L_law dL_law_1289
theorem e_L_law_1339 (sc : SC) (c0 : Nat) (p1 : Nat) (p2 : Nat) (p3 : Nat) (p4 : Nat) (x5 : Int32) (v6 : AV) (v7 : AV) (v8 : AV) (q0 : Nat) (y1 : Int32) (y2 : Int32) (dl : DL) (h : AH) : Run sc n_L_law 1339 [aC c0, aD p1, aD p2, aD p3, aD p4, aI x5, v6, v7, v8] dl [aI y2, aI y1, aD q0] h = bC (Call sc n_L_differences [aD q0, aI y1, aI y2, aD p3] h) (fun v z => Run sc n_L_law 1343 [aC c0, aD p1, aD p2, aD p3, aD p4, aI x5, v6, v7, v8] dl (v.toList ++ []) z) (fun _ _ => none) := by
  refine (s_go mt_L_law dL_law_1339 rfl).trans ?_
  exact q_cSD mt_L_law dL_law_1340 rfl mt_L_differences rfl
theorem e_L_law_1407 (sc : SC) (c0 : Nat) (p1 : Nat) (p2 : Nat) (p3 : Nat) (p4 : Nat) (x5 : Int32) (v6 : AV) (v7 : AV) (v8 : AV) (q0 : Nat) (y1 : Int32) (y2 : Int32) (dl : DL) (h : AH) : Run sc n_L_law 1407 [aC c0, aD p1, aD p2, aD p3, aD p4, aI x5, v6, v7, v8] dl [aI y2, aI y1, aD q0] h = bC (Call sc n_L_meanSteps [aD q0, aI y1, aI y2, aD p4] h) (fun v z => Run sc n_L_law 1412 [aC c0, aD p1, aD p2, aD p3, aD p4, aI x5, v6, v7, v8] dl (v.toList ++ []) z) (fun _ _ => none) := by
  refine (s_go mt_L_law dL_law_1407 rfl).trans ?_
  exact q_cSD mt_L_law dL_law_1409 rfl mt_L_meanSteps rfl
theorem e_L_law_1466 (sc : SC) (c0 : Nat) (p1 : Nat) (p2 : Nat) (p3 : Nat) (p4 : Nat) (x5 : Int32) (x6 : Int32) (v7 : AV) (v8 : AV) (e0 : UInt64) (e1 : UInt64) (dl : DL) (h : AH) : Run sc n_L_law 1466 [aC c0, aD p1, aD p2, aD p3, aD p4, aI x5, aI x6, v7, v8] dl [aE e1, aE e0] h = Run sc n_L_law (if (Op.cmpValue (FP.dcmp e0 e1) .l) = 0 then 1478 else 1470) [aC c0, aD p1, aD p2, aD p3, aD p4, aI x5, aI x6, v7, v8] dl [] h := by
  refine (s_go mt_L_law dL_law_1466 rfl).trans ?_
  exact q_if mt_L_law dL_law_1467 (fun _ _ _ _ => rfl) rfl
theorem e_L_law_1495 (sc : SC) (c0 : Nat) (p1 : Nat) (p2 : Nat) (p3 : Nat) (p4 : Nat) (x5 : Int32) (x6 : Int32) (v7 : AV) (v8 : AV) (g0 : UInt32) (dl : DL) (h : AH) : Run sc n_L_law 1495 [aC c0, aD p1, aD p2, aD p3, aD p4, aI x5, aI x6, v7, v8] dl [aF g0] h = bI (rOK sc h (aD p2) 12 = true) (bC (Call sc n_X10_thrown [aD p2] h) (fun v z => Run sc n_L_law 1501 [aC c0, aD p1, aD p2, aD p3, aD p4, aI x5, aI x6, aF g0, v8] (dlc 7 dl) (v.toList ++ []) z) (fun E z => some (.inr E, z))) := by
  refine (s_go mt_L_law dL_law_1495 rfl).trans ?_
  refine (s_go mt_L_law dL_law_1497 rfl).trans ?_
  exact q_cV mt_L_law dL_law_1498 rfl mt_X10_thrown rfl rfl rfl
theorem e_L_law_1520 (sc : SC) (c0 : Nat) (p1 : Nat) (p2 : Nat) (p3 : Nat) (p4 : Nat) (x5 : Int32) (x6 : Int32) (f7 : UInt32) (v8 : AV) (e0 : UInt64) (e1 : UInt64) (dl : DL) (h : AH) : Run sc n_L_law 1520 [aC c0, aD p1, aD p2, aD p3, aD p4, aI x5, aI x6, aF f7, v8] dl [aE e1, aE e0] h = Run sc n_L_law (if (Op.cmpValue (FP.dcmp e0 e1) .l) = 0 then 1546 else 1524) [aC c0, aD p1, aD p2, aD p3, aD p4, aI x5, aI x6, aF f7, v8] dl [] h := by
  refine (s_go mt_L_law dL_law_1520 rfl).trans ?_
  exact q_if mt_L_law dL_law_1521 (fun _ _ _ _ => rfl) rfl
theorem e_L_law_1532 (sc : SC) (c0 : Nat) (p1 : Nat) (p2 : Nat) (p3 : Nat) (p4 : Nat) (x5 : Int32) (x6 : Int32) (f7 : UInt32) (v8 : AV) (e0 : UInt64) (e1 : UInt64) (dl : DL) (h : AH) : Run sc n_L_law 1532 [aC c0, aD p1, aD p2, aD p3, aD p4, aI x5, aI x6, aF f7, v8] dl [aE e1, aE e0] h = Run sc n_L_law (if (Op.cmpValue (FP.dcmp e0 e1) .l) = 0 then 1544 else 1536) [aC c0, aD p1, aD p2, aD p3, aD p4, aI x5, aI x6, aF f7, v8] dl [] h := by
  refine (s_go mt_L_law dL_law_1532 rfl).trans ?_
  exact q_if mt_L_law dL_law_1533 (fun _ _ _ _ => rfl) rfl
theorem e_L_law_1557 (sc : SC) (c0 : Nat) (p1 : Nat) (p2 : Nat) (p3 : Nat) (p4 : Nat) (x5 : Int32) (v6 : AV) (v7 : AV) (v8 : AV) (y0 : Int32) (y1 : Int32) (dl : DL) (h : AH) : Run sc n_L_law 1557 [aC c0, aD p1, aD p2, aD p3, aD p4, aI x5, v6, v7, v8] dl [aI y1, aI y0] h = Run sc n_L_law (if y0 = y1 then 1606 else 1560) [aC c0, aD p1, aD p2, aD p3, aD p4, aI x5, v6, v7, v8] dl [] h := by
  exact q_icmp mt_L_law dL_law_1557 (fun _ _ _ _ => rfl) rfl
theorem e_L_law_1573 (sc : SC) (c0 : Nat) (p1 : Nat) (p2 : Nat) (p3 : Nat) (p4 : Nat) (x5 : Int32) (x6 : Int32) (v7 : AV) (v8 : AV) (y0 : Int32) (dl : DL) (h : AH) : Run sc n_L_law 1573 [aC c0, aD p1, aD p2, aD p3, aD p4, aI x5, aI x6, v7, v8] dl [aI y0] h = bI (rOK sc h (aD p2) 12 = true) (bC (Call sc n_X10_thrown [aD p2] h) (fun v z => Run sc n_L_law 1579 [aC c0, aD p1, aD p2, aD p3, aD p4, aI x5, aI x6, aI y0, v8] (dlc 7 dl) (v.toList ++ []) z) (fun E z => some (.inr E, z))) := by
  refine (s_go mt_L_law dL_law_1573 rfl).trans ?_
  refine (s_go mt_L_law dL_law_1575 rfl).trans ?_
  exact q_cV mt_L_law dL_law_1576 rfl mt_X10_thrown rfl rfl rfl
theorem e_L_law_19 (sc : SC) (c0 : Nat) (p1 : Nat) (p2 : Nat) (v3 : AV) (v4 : AV) (v5 : AV) (v6 : AV) (v7 : AV) (v8 : AV) (q0 : Nat) (dl : DL) (h : AH) : Run sc n_L_law 19 [aC c0, aD p1, aD p2, v3, v4, v5, v6, v7, v8] dl [aD q0] h = bI (¬ ((nI 1) < 0 ∨ 67108864 < (nI 1).toNatClampNeg)) (Run sc n_L_law 23 [aC c0, aD p1, aD p2, aD q0, v4, v5, v6, v7, v8] (dlc 3 dl) [aD h.1.length] (hpush h (oE (nI 1).toNatClampNeg (fun _ => 0)))) := by
  refine (s_go mt_L_law dL_law_19 rfl).trans ?_
  refine (s_go mt_L_law dL_law_20 rfl).trans ?_
  exact q_newarray (mk := fun m => oE m (fun _ => 0)) mt_L_law dL_law_21 (fun _ => rfl)
theorem e_L_law_189 (sc : SC) (c0 : Nat) (p1 : Nat) (p2 : Nat) (p3 : Nat) (p4 : Nat) (x5 : Int32) (x6 : Int32) (v7 : AV) (v8 : AV) (q0 : Nat) (y1 : Int32) (dl : DL) (h : AH) : Run sc n_L_law 189 [aC c0, aD p1, aD p2, aD p3, aD p4, aI x5, aI x6, v7, v8] dl [aI y1, aD q0] h = bI (rOK sc h (aD q0) 12 = true) (bC (Call sc n_X10_feed [aD q0, aI (((y1).toUInt32 % 65536).toInt32)] h) (fun v z => Run sc n_L_law 193 [aC c0, aD p1, aD p2, aD p3, aD p4, aI x5, aI x6, v7, v8] dl (v.toList ++ []) z) (fun E z => some (.inr E, z))) := by
  refine (s_go mt_L_law dL_law_189 rfl).trans ?_
  exact q_cV mt_L_law dL_law_190 rfl mt_X10_feed rfl rfl rfl
theorem e_L_law_243 (sc : SC) (c0 : Nat) (p1 : Nat) (p2 : Nat) (p3 : Nat) (p4 : Nat) (x5 : Int32) (x6 : Int32) (x7 : Int32) (v8 : AV) (y0 : Int32) (dl : DL) (h : AH) : Run sc n_L_law 243 [aC c0, aD p1, aD p2, aD p3, aD p4, aI x5, aI x6, aI x7, v8] dl [aI y0] h = Run sc n_L_law (if y0 = x6 then 250 else 248) [aC c0, aD p1, aD p2, aD p3, aD p4, aI x5, aI x6, aI x7, v8] dl [] h := by
  refine (s_go mt_L_law dL_law_243 rfl).trans ?_
  exact q_icmp mt_L_law dL_law_245 (fun _ _ _ _ => rfl) rfl
theorem e_L_law_313 (sc : SC) (c0 : Nat) (p1 : Nat) (p2 : Nat) (p3 : Nat) (p4 : Nat) (x5 : Int32) (v6 : AV) (v7 : AV) (v8 : AV) (y0 : Int32) (dl : DL) (h : AH) : Run sc n_L_law 313 [aC c0, aD p1, aD p2, aD p3, aD p4, aI x5, v6, v7, v8] dl [aI y0] h = bO (ldI sc h (fun t => t == 0) (aC c0) (x5 + (nI 1))) (fun z => Run sc n_L_law 322 [aC c0, aD p1, aD p2, aD p3, aD p4, aI x5, aI y0, v7, v8] (dlc 6 dl) [aI z, aD p2] h) := by
  refine (s_go mt_L_law dL_law_313 rfl).trans ?_
  refine (s_go mt_L_law dL_law_315 rfl).trans ?_
  refine (s_go mt_L_law dL_law_316 rfl).trans ?_
  refine (s_go mt_L_law dL_law_317 rfl).trans ?_
  refine (s_go mt_L_law dL_law_319 rfl).trans ?_
  refine (s_go mt_L_law dL_law_320 rfl).trans ?_
  exact q_iaload mt_L_law dL_law_321
theorem e_L_law_407 (sc : SC) (c0 : Nat) (p1 : Nat) (p2 : Nat) (p3 : Nat) (p4 : Nat) (x5 : Int32) (v6 : AV) (v7 : AV) (v8 : AV) (y0 : Int32) (dl : DL) (h : AH) : Run sc n_L_law 407 [aC c0, aD p1, aD p2, aD p3, aD p4, aI x5, v6, v7, v8] dl [aI y0] h = bO (ldI sc h (fun t => t == 0) (aC c0) (x5 + (nI 1))) (fun z => Run sc n_L_law 416 [aC c0, aD p1, aD p2, aD p3, aD p4, aI x5, aI y0, v7, v8] (dlc 6 dl) [aI z, aD p2] h) := by
  refine (s_go mt_L_law dL_law_407 rfl).trans ?_
  refine (s_go mt_L_law dL_law_409 rfl).trans ?_
  refine (s_go mt_L_law dL_law_410 rfl).trans ?_
  refine (s_go mt_L_law dL_law_411 rfl).trans ?_
  refine (s_go mt_L_law dL_law_413 rfl).trans ?_
  refine (s_go mt_L_law dL_law_414 rfl).trans ?_
  exact q_iaload mt_L_law dL_law_415
theorem e_L_law_478 (sc : SC) (c0 : Nat) (p1 : Nat) (p2 : Nat) (p3 : Nat) (p4 : Nat) (x5 : Int32) (x6 : Int32) (v7 : AV) (v8 : AV) (q0 : Nat) (y1 : Int32) (dl : DL) (h : AH) : Run sc n_L_law 478 [aC c0, aD p1, aD p2, aD p3, aD p4, aI x5, aI x6, v7, v8] dl [aI y1, aD q0] h = bI (rOK sc h (aD q0) 12 = true) (bC (Call sc n_X10_count [aD q0, aI y1] h) (fun v z => Run sc n_L_law 481 [aC c0, aD p1, aD p2, aD p3, aD p4, aI x5, aI x6, v7, v8] dl (v.toList ++ []) z) (fun E z => some (.inr E, z))) := by
  exact q_cV mt_L_law dL_law_478 rfl mt_X10_count rfl rfl rfl
theorem e_L_law_534 (sc : SC) (c0 : Nat) (p1 : Nat) (p2 : Nat) (p3 : Nat) (p4 : Nat) (x5 : Int32) (x6 : Int32) (v7 : AV) (v8 : AV) (q0 : Nat) (y1 : Int32) (dl : DL) (h : AH) : Run sc n_L_law 534 [aC c0, aD p1, aD p2, aD p3, aD p4, aI x5, aI x6, v7, v8] dl [aI y1, aD q0] h = bI (rOK sc h (aD q0) 12 = true) (bC (Call sc n_X10_live [aD q0, aI y1] h) (fun v z => Run sc n_L_law 537 [aC c0, aD p1, aD p2, aD p3, aD p4, aI x5, aI x6, v7, v8] dl (v.toList ++ []) z) (fun E z => some (.inr E, z))) := by
  exact q_cV mt_L_law dL_law_534 rfl mt_X10_live rfl rfl rfl
theorem e_L_law_587 (sc : SC) (c0 : Nat) (p1 : Nat) (p2 : Nat) (p3 : Nat) (p4 : Nat) (x5 : Int32) (v6 : AV) (v7 : AV) (v8 : AV) (y0 : Int32) (dl : DL) (h : AH) : Run sc n_L_law 587 [aC c0, aD p1, aD p2, aD p3, aD p4, aI x5, v6, v7, v8] dl [aI y0] h = bO (ldI sc h (fun t => t == 0) (aC c0) (x5 + (nI 1))) (fun z => Run sc n_L_law 596 [aC c0, aD p1, aD p2, aD p3, aD p4, aI x5, aI y0, v7, v8] (dlc 6 dl) [aI z, aD p2] h) := by
  refine (s_go mt_L_law dL_law_587 rfl).trans ?_
  refine (s_go mt_L_law dL_law_589 rfl).trans ?_
  refine (s_go mt_L_law dL_law_590 rfl).trans ?_
  refine (s_go mt_L_law dL_law_591 rfl).trans ?_
  refine (s_go mt_L_law dL_law_593 rfl).trans ?_
  refine (s_go mt_L_law dL_law_594 rfl).trans ?_
  exact q_iaload mt_L_law dL_law_595
theorem e_L_law_662 (sc : SC) (c0 : Nat) (p1 : Nat) (p2 : Nat) (p3 : Nat) (p4 : Nat) (x5 : Int32) (v6 : AV) (v7 : AV) (v8 : AV) (y0 : Int32) (dl : DL) (h : AH) : Run sc n_L_law 662 [aC c0, aD p1, aD p2, aD p3, aD p4, aI x5, v6, v7, v8] dl [aI y0] h = bO (ldI sc h (fun t => t == 0) (aC c0) (x5 + (nI 1))) (fun z => Run sc n_L_law 671 [aC c0, aD p1, aD p2, aD p3, aD p4, aI x5, aI y0, v7, v8] (dlc 6 dl) [aI z, aD p2] h) := by
  refine (s_go mt_L_law dL_law_662 rfl).trans ?_
  refine (s_go mt_L_law dL_law_664 rfl).trans ?_
  refine (s_go mt_L_law dL_law_665 rfl).trans ?_
  refine (s_go mt_L_law dL_law_666 rfl).trans ?_
  refine (s_go mt_L_law dL_law_668 rfl).trans ?_
  refine (s_go mt_L_law dL_law_669 rfl).trans ?_
  exact q_iaload mt_L_law dL_law_670
theorem e_L_law_730 (sc : SC) (c0 : Nat) (p1 : Nat) (p2 : Nat) (p3 : Nat) (p4 : Nat) (x5 : Int32) (v6 : AV) (v7 : AV) (v8 : AV) (y0 : Int32) (dl : DL) (h : AH) : Run sc n_L_law 730 [aC c0, aD p1, aD p2, aD p3, aD p4, aI x5, v6, v7, v8] dl [aI y0] h = bO (ldI sc h (fun t => t == 0) (aC c0) (x5 + (nI 1))) (fun z => Run sc n_L_law 739 [aC c0, aD p1, aD p2, aD p3, aD p4, aI x5, aI y0, v7, v8] (dlc 6 dl) [aI z, aD p2] h) := by
  refine (s_go mt_L_law dL_law_730 rfl).trans ?_
  refine (s_go mt_L_law dL_law_732 rfl).trans ?_
  refine (s_go mt_L_law dL_law_733 rfl).trans ?_
  refine (s_go mt_L_law dL_law_734 rfl).trans ?_
  refine (s_go mt_L_law dL_law_736 rfl).trans ?_
  refine (s_go mt_L_law dL_law_737 rfl).trans ?_
  exact q_iaload mt_L_law dL_law_738
theorem e_L_law_798 (sc : SC) (c0 : Nat) (p1 : Nat) (p2 : Nat) (p3 : Nat) (p4 : Nat) (x5 : Int32) (v6 : AV) (v7 : AV) (v8 : AV) (y0 : Int32) (dl : DL) (h : AH) : Run sc n_L_law 798 [aC c0, aD p1, aD p2, aD p3, aD p4, aI x5, v6, v7, v8] dl [aI y0] h = bO (ldI sc h (fun t => t == 0) (aC c0) (x5 + (nI 1))) (fun z => Run sc n_L_law 807 [aC c0, aD p1, aD p2, aD p3, aD p4, aI x5, aI y0, v7, v8] (dlc 6 dl) [aI z, aD p2] h) := by
  refine (s_go mt_L_law dL_law_798 rfl).trans ?_
  refine (s_go mt_L_law dL_law_800 rfl).trans ?_
  refine (s_go mt_L_law dL_law_801 rfl).trans ?_
  refine (s_go mt_L_law dL_law_802 rfl).trans ?_
  refine (s_go mt_L_law dL_law_804 rfl).trans ?_
  refine (s_go mt_L_law dL_law_805 rfl).trans ?_
  exact q_iaload mt_L_law dL_law_806
theorem e_L_law_866 (sc : SC) (c0 : Nat) (p1 : Nat) (p2 : Nat) (p3 : Nat) (p4 : Nat) (x5 : Int32) (x6 : Int32) (x7 : Int32) (v8 : AV) (y0 : Int32) (dl : DL) (h : AH) : Run sc n_L_law 866 [aC c0, aD p1, aD p2, aD p3, aD p4, aI x5, aI x6, aI x7, v8] dl [aI y0] h = Run sc n_L_law (if y0 = x6 then 873 else 871) [aC c0, aD p1, aD p2, aD p3, aD p4, aI x5, aI x6, aI x7, v8] dl [] h := by
  refine (s_go mt_L_law dL_law_866 rfl).trans ?_
  exact q_icmp mt_L_law dL_law_868 (fun _ _ _ _ => rfl) rfl
theorem e_L_law_926 (sc : SC) (c0 : Nat) (p1 : Nat) (p2 : Nat) (p3 : Nat) (p4 : Nat) (x5 : Int32) (x6 : Int32) (v7 : AV) (v8 : AV) (q0 : Nat) (y1 : Int32) (dl : DL) (h : AH) : Run sc n_L_law 926 [aC c0, aD p1, aD p2, aD p3, aD p4, aI x5, aI x6, v7, v8] dl [aI y1, aD q0] h = bI (rOK sc h (aD q0) 12 = true) (bC (Call sc n_X10_text [aD q0, aI y1] h) (fun v z => Run sc n_L_law 929 [aC c0, aD p1, aD p2, aD p3, aD p4, aI x5, aI x6, v7, v8] dl (v.toList ++ []) z) (fun E z => some (.inr E, z))) := by
  exact q_cV mt_L_law dL_law_926 rfl mt_X10_text rfl rfl rfl
theorem e_L_law_993 (sc : SC) (c0 : Nat) (p1 : Nat) (p2 : Nat) (p3 : Nat) (p4 : Nat) (x5 : Int32) (v6 : AV) (v7 : AV) (v8 : AV) (y0 : Int32) (dl : DL) (h : AH) : Run sc n_L_law 993 [aC c0, aD p1, aD p2, aD p3, aD p4, aI x5, v6, v7, v8] dl [aI y0] h = bO (ldI sc h (fun t => t == 0) (aC c0) (x5 + (nI 1))) (fun z => Run sc n_L_law 1002 [aC c0, aD p1, aD p2, aD p3, aD p4, aI x5, aI y0, v7, v8] (dlc 6 dl) [aI z, aD p2] h) := by
  refine (s_go mt_L_law dL_law_993 rfl).trans ?_
  refine (s_go mt_L_law dL_law_995 rfl).trans ?_
  refine (s_go mt_L_law dL_law_996 rfl).trans ?_
  refine (s_go mt_L_law dL_law_997 rfl).trans ?_
  refine (s_go mt_L_law dL_law_999 rfl).trans ?_
  refine (s_go mt_L_law dL_law_1000 rfl).trans ?_
  exact q_iaload mt_L_law dL_law_1001
theorem e_L_law_1025 (sc : SC) (c0 : Nat) (p1 : Nat) (p2 : Nat) (p3 : Nat) (p4 : Nat) (x5 : Int32) (x6 : Int32) (v7 : AV) (v8 : AV) (y0 : Int32) (dl : DL) (h : AH) : Run sc n_L_law 1025 [aC c0, aD p1, aD p2, aD p3, aD p4, aI x5, aI x6, v7, v8] dl [aI y0] h = bI (rOK sc h (aD p2) 12 = true) (bC (Call sc n_X10_thrown [aD p2] h) (fun v z => Run sc n_L_law 1031 [aC c0, aD p1, aD p2, aD p3, aD p4, aI x5, aI x6, aI y0, v8] (dlc 7 dl) (v.toList ++ []) z) (fun E z => some (.inr E, z))) := by
  refine (s_go mt_L_law dL_law_1025 rfl).trans ?_
  refine (s_go mt_L_law dL_law_1027 rfl).trans ?_
  exact q_cV mt_L_law dL_law_1028 rfl mt_X10_thrown rfl rfl rfl
theorem e_L_law_1092 (sc : SC) (c0 : Nat) (p1 : Nat) (p2 : Nat) (p3 : Nat) (p4 : Nat) (x5 : Int32) (x6 : Int32) (v7 : AV) (v8 : AV) (q0 : Nat) (y1 : Int32) (dl : DL) (h : AH) : Run sc n_L_law 1092 [aC c0, aD p1, aD p2, aD p3, aD p4, aI x5, aI x6, v7, v8] dl [aI y1, aD q0] h = Run sc n_L_law (if y1 = 0 then 1099 else 1095) [aC c0, aD p1, aD p2, aD p3, aD p4, aI x5, aI x6, v7, v8] dl [aD q0] h := by
  exact q_if mt_L_law dL_law_1092 (fun _ _ _ _ => rfl) rfl
theorem e_L_law_1115 (sc : SC) (c0 : Nat) (p1 : Nat) (p2 : Nat) (p3 : Nat) (p4 : Nat) (x5 : Int32) (x6 : Int32) (x7 : Int32) (v8 : AV) (y0 : Int32) (dl : DL) (h : AH) : Run sc n_L_law 1115 [aC c0, aD p1, aD p2, aD p3, aD p4, aI x5, aI x6, aI x7, v8] dl [aI y0] h = Run sc n_L_law (if y0 = x6 then 1122 else 1120) [aC c0, aD p1, aD p2, aD p3, aD p4, aI x5, aI x6, aI x7, v8] dl [] h := by
  refine (s_go mt_L_law dL_law_1115 rfl).trans ?_
  exact q_icmp mt_L_law dL_law_1117 (fun _ _ _ _ => rfl) rfl
theorem e_L_law_1176 (sc : SC) (c0 : Nat) (p1 : Nat) (p2 : Nat) (p3 : Nat) (p4 : Nat) (x5 : Int32) (x6 : Int32) (v7 : AV) (v8 : AV) (q0 : Nat) (y1 : Int32) (dl : DL) (h : AH) : Run sc n_L_law 1176 [aC c0, aD p1, aD p2, aD p3, aD p4, aI x5, aI x6, v7, v8] dl [aI y1, aD q0] h = Run sc n_L_law (if y1 = 0 then 1183 else 1179) [aC c0, aD p1, aD p2, aD p3, aD p4, aI x5, aI x6, v7, v8] dl [aD q0] h := by
  exact q_if mt_L_law dL_law_1176 (fun _ _ _ _ => rfl) rfl
theorem e_L_law_1199 (sc : SC) (c0 : Nat) (p1 : Nat) (p2 : Nat) (p3 : Nat) (p4 : Nat) (x5 : Int32) (x6 : Int32) (x7 : Int32) (v8 : AV) (y0 : Int32) (dl : DL) (h : AH) : Run sc n_L_law 1199 [aC c0, aD p1, aD p2, aD p3, aD p4, aI x5, aI x6, aI x7, v8] dl [aI y0] h = Run sc n_L_law (if y0 = x6 then 1206 else 1204) [aC c0, aD p1, aD p2, aD p3, aD p4, aI x5, aI x6, aI x7, v8] dl [] h := by
  refine (s_go mt_L_law dL_law_1199 rfl).trans ?_
  exact q_icmp mt_L_law dL_law_1201 (fun _ _ _ _ => rfl) rfl
theorem e_L_law_1243 (sc : SC) (c0 : Nat) (p1 : Nat) (p2 : Nat) (p3 : Nat) (p4 : Nat) (x5 : Int32) (x6 : Int32) (x7 : Int32) (v8 : AV) (y0 : Int32) (dl : DL) (h : AH) : Run sc n_L_law 1243 [aC c0, aD p1, aD p2, aD p3, aD p4, aI x5, aI x6, aI x7, v8] dl [aI y0] h = Run sc n_L_law (if y0 = x6 then 1250 else 1248) [aC c0, aD p1, aD p2, aD p3, aD p4, aI x5, aI x6, aI x7, v8] dl [] h := by
  refine (s_go mt_L_law dL_law_1243 rfl).trans ?_
  exact q_icmp mt_L_law dL_law_1245 (fun _ _ _ _ => rfl) rfl
theorem e_L_law_1290 (sc : SC) (c0 : Nat) (p1 : Nat) (p2 : Nat) (p3 : Nat) (p4 : Nat) (x5 : Int32) (x6 : Int32) (v7 : AV) (v8 : AV) (q0 : Nat) (y1 : Int32) (dl : DL) (h : AH) : Run sc n_L_law 1290 [aC c0, aD p1, aD p2, aD p3, aD p4, aI x5, aI x6, v7, v8] dl [aI y1, aD q0] h = bI (rOK sc h (aD q0) 12 = true) (bC (Call sc n_X10_output [aD q0, aI y1] h) (fun v z => Run sc n_L_law 1293 [aC c0, aD p1, aD p2, aD p3, aD p4, aI x5, aI x6, v7, v8] dl (v.toList ++ []) z) (fun E z => some (.inr E, z))) := by
  exact q_cV mt_L_law dL_law_1290 rfl mt_X10_output rfl rfl rfl
theorem e_L_law_1343 (sc : SC) (c0 : Nat) (p1 : Nat) (p2 : Nat) (p3 : Nat) (p4 : Nat) (x5 : Int32) (v6 : AV) (v7 : AV) (v8 : AV) (y0 : Int32) (dl : DL) (h : AH) : Run sc n_L_law 1343 [aC c0, aD p1, aD p2, aD p3, aD p4, aI x5, v6, v7, v8] dl [aI y0] h = bO (ldI sc h (fun t => t == 0) (aC c0) (x5 + (nI 1))) (fun z => Run sc n_L_law 1352 [aC c0, aD p1, aD p2, aD p3, aD p4, aI x5, aI y0, v7, v8] (dlc 6 dl) [aI z, aD p2] h) := by
  refine (s_go mt_L_law dL_law_1343 rfl).trans ?_
  refine (s_go mt_L_law dL_law_1345 rfl).trans ?_
  refine (s_go mt_L_law dL_law_1346 rfl).trans ?_
  refine (s_go mt_L_law dL_law_1347 rfl).trans ?_
  refine (s_go mt_L_law dL_law_1349 rfl).trans ?_
  refine (s_go mt_L_law dL_law_1350 rfl).trans ?_
  exact q_iaload mt_L_law dL_law_1351
theorem e_L_law_1412 (sc : SC) (c0 : Nat) (p1 : Nat) (p2 : Nat) (p3 : Nat) (p4 : Nat) (x5 : Int32) (v6 : AV) (v7 : AV) (v8 : AV) (y0 : Int32) (dl : DL) (h : AH) : Run sc n_L_law 1412 [aC c0, aD p1, aD p2, aD p3, aD p4, aI x5, v6, v7, v8] dl [aI y0] h = bO (ldI sc h (fun t => t == 0) (aC c0) (x5 + (nI 1))) (fun z => Run sc n_L_law 1421 [aC c0, aD p1, aD p2, aD p3, aD p4, aI x5, aI y0, v7, v8] (dlc 6 dl) [aI z, aD p2] h) := by
  refine (s_go mt_L_law dL_law_1412 rfl).trans ?_
  refine (s_go mt_L_law dL_law_1414 rfl).trans ?_
  refine (s_go mt_L_law dL_law_1415 rfl).trans ?_
  refine (s_go mt_L_law dL_law_1416 rfl).trans ?_
  refine (s_go mt_L_law dL_law_1418 rfl).trans ?_
  refine (s_go mt_L_law dL_law_1419 rfl).trans ?_
  exact q_iaload mt_L_law dL_law_1420
theorem e_L_law_1501 (sc : SC) (c0 : Nat) (p1 : Nat) (p2 : Nat) (p3 : Nat) (p4 : Nat) (x5 : Int32) (x6 : Int32) (f7 : UInt32) (v8 : AV) (y0 : Int32) (dl : DL) (h : AH) : Run sc n_L_law 1501 [aC c0, aD p1, aD p2, aD p3, aD p4, aI x5, aI x6, aF f7, v8] dl [aI y0] h = Run sc n_L_law (if y0 = x6 then 1508 else 1506) [aC c0, aD p1, aD p2, aD p3, aD p4, aI x5, aI x6, aF f7, v8] dl [] h := by
  refine (s_go mt_L_law dL_law_1501 rfl).trans ?_
  exact q_icmp mt_L_law dL_law_1503 (fun _ _ _ _ => rfl) rfl
theorem e_L_law_1579 (sc : SC) (c0 : Nat) (p1 : Nat) (p2 : Nat) (p3 : Nat) (p4 : Nat) (x5 : Int32) (x6 : Int32) (x7 : Int32) (v8 : AV) (y0 : Int32) (dl : DL) (h : AH) : Run sc n_L_law 1579 [aC c0, aD p1, aD p2, aD p3, aD p4, aI x5, aI x6, aI x7, v8] dl [aI y0] h = Run sc n_L_law (if y0 = x6 then 1586 else 1584) [aC c0, aD p1, aD p2, aD p3, aD p4, aI x5, aI x6, aI x7, v8] dl [] h := by
  refine (s_go mt_L_law dL_law_1579 rfl).trans ?_
  exact q_icmp mt_L_law dL_law_1581 (fun _ _ _ _ => rfl) rfl
theorem e_L_law_23 (sc : SC) (c0 : Nat) (p1 : Nat) (p2 : Nat) (p3 : Nat) (v4 : AV) (v5 : AV) (v6 : AV) (v7 : AV) (v8 : AV) (q0 : Nat) (dl : DL) (h : AH) : Run sc n_L_law 23 [aC c0, aD p1, aD p2, aD p3, v4, v5, v6, v7, v8] dl [aD q0] h = Run sc n_L_law 28 [aC c0, aD p1, aD p2, aD p3, aD q0, aI (nI 0), v6, v7, v8] (dlc 5 (dlc 4 dl)) [] h := by
  refine (s_go mt_L_law dL_law_23 rfl).trans ?_
  refine (s_go mt_L_law dL_law_25 rfl).trans ?_
  refine (s_go mt_L_law dL_law_26 rfl).trans ?_
  exact rfl
theorem e_L_law_193 (sc : SC) (c0 : Nat) (p1 : Nat) (p2 : Nat) (p3 : Nat) (p4 : Nat) (x5 : Int32) (x6 : Int32) (v7 : AV) (v8 : AV) (y0 : Int32) (dl : DL) (h : AH) : Run sc n_L_law 193 [aC c0, aD p1, aD p2, aD p3, aD p4, aI x5, aI x6, v7, v8] dl [aI y0] h = bI (rOK sc h (aD p2) 12 = true) (bC (Call sc n_X10_thrown [aD p2] h) (fun v z => Run sc n_L_law 199 [aC c0, aD p1, aD p2, aD p3, aD p4, aI x5, aI x6, aI y0, v8] (dlc 7 dl) (v.toList ++ []) z) (fun E z => some (.inr E, z))) := by
  refine (s_go mt_L_law dL_law_193 rfl).trans ?_
  refine (s_go mt_L_law dL_law_195 rfl).trans ?_
  exact q_cV mt_L_law dL_law_196 rfl mt_X10_thrown rfl rfl rfl
theorem e_L_law_322 (sc : SC) (c0 : Nat) (p1 : Nat) (p2 : Nat) (p3 : Nat) (p4 : Nat) (x5 : Int32) (x6 : Int32) (v7 : AV) (v8 : AV) (q0 : Nat) (y1 : Int32) (dl : DL) (h : AH) : Run sc n_L_law 322 [aC c0, aD p1, aD p2, aD p3, aD p4, aI x5, aI x6, v7, v8] dl [aI y1, aD q0] h = bO (ldI sc h (fun t => t == 0) (aC c0) (x5 + (nI 2))) (fun z => Run sc n_L_law 328 [aC c0, aD p1, aD p2, aD p3, aD p4, aI x5, aI x6, v7, v8] dl [aI z, aI y1, aD q0] h) := by
  refine (s_go mt_L_law dL_law_322 rfl).trans ?_
  refine (s_go mt_L_law dL_law_323 rfl).trans ?_
  refine (s_go mt_L_law dL_law_325 rfl).trans ?_
  refine (s_go mt_L_law dL_law_326 rfl).trans ?_
  exact q_iaload mt_L_law dL_law_327
theorem e_L_law_416 (sc : SC) (c0 : Nat) (p1 : Nat) (p2 : Nat) (p3 : Nat) (p4 : Nat) (x5 : Int32) (x6 : Int32) (v7 : AV) (v8 : AV) (q0 : Nat) (y1 : Int32) (dl : DL) (h : AH) : Run sc n_L_law 416 [aC c0, aD p1, aD p2, aD p3, aD p4, aI x5, aI x6, v7, v8] dl [aI y1, aD q0] h = bO (ldI sc h (fun t => t == 0) (aC c0) (x5 + (nI 2))) (fun z => Run sc n_L_law 422 [aC c0, aD p1, aD p2, aD p3, aD p4, aI x5, aI x6, v7, v8] dl [aI z, aI y1, aD q0] h) := by
  refine (s_go mt_L_law dL_law_416 rfl).trans ?_
  refine (s_go mt_L_law dL_law_417 rfl).trans ?_
  refine (s_go mt_L_law dL_law_419 rfl).trans ?_
  refine (s_go mt_L_law dL_law_420 rfl).trans ?_
  exact q_iaload mt_L_law dL_law_421
theorem e_L_law_481 (sc : SC) (c0 : Nat) (p1 : Nat) (p2 : Nat) (p3 : Nat) (p4 : Nat) (x5 : Int32) (x6 : Int32) (v7 : AV) (v8 : AV) (y0 : Int32) (dl : DL) (h : AH) : Run sc n_L_law 481 [aC c0, aD p1, aD p2, aD p3, aD p4, aI x5, aI x6, v7, v8] dl [aI y0] h = bI (rOK sc h (aD p2) 12 = true) (bC (Call sc n_X10_thrown [aD p2] h) (fun v z => Run sc n_L_law 487 [aC c0, aD p1, aD p2, aD p3, aD p4, aI x5, aI x6, aI y0, v8] (dlc 7 dl) (v.toList ++ []) z) (fun E z => some (.inr E, z))) := by
  refine (s_go mt_L_law dL_law_481 rfl).trans ?_
  refine (s_go mt_L_law dL_law_483 rfl).trans ?_
  exact q_cV mt_L_law dL_law_484 rfl mt_X10_thrown rfl rfl rfl
theorem e_L_law_537 (sc : SC) (c0 : Nat) (p1 : Nat) (p2 : Nat) (p3 : Nat) (p4 : Nat) (x5 : Int32) (x6 : Int32) (v7 : AV) (v8 : AV) (y0 : Int32) (dl : DL) (h : AH) : Run sc n_L_law 537 [aC c0, aD p1, aD p2, aD p3, aD p4, aI x5, aI x6, v7, v8] dl [aI y0] h = bI (rOK sc h (aD p2) 12 = true) (bC (Call sc n_X10_thrown [aD p2] h) (fun v z => Run sc n_L_law 543 [aC c0, aD p1, aD p2, aD p3, aD p4, aI x5, aI x6, aI y0, v8] (dlc 7 dl) (v.toList ++ []) z) (fun E z => some (.inr E, z))) := by
  refine (s_go mt_L_law dL_law_537 rfl).trans ?_
  refine (s_go mt_L_law dL_law_539 rfl).trans ?_
  exact q_cV mt_L_law dL_law_540 rfl mt_X10_thrown rfl rfl rfl
theorem e_L_law_596 (sc : SC) (c0 : Nat) (p1 : Nat) (p2 : Nat) (p3 : Nat) (p4 : Nat) (x5 : Int32) (x6 : Int32) (v7 : AV) (v8 : AV) (q0 : Nat) (y1 : Int32) (dl : DL) (h : AH) : Run sc n_L_law 596 [aC c0, aD p1, aD p2, aD p3, aD p4, aI x5, aI x6, v7, v8] dl [aI y1, aD q0] h = bO (ldI sc h (fun t => t == 0) (aC c0) (x5 + (nI 2))) (fun z => Run sc n_L_law 602 [aC c0, aD p1, aD p2, aD p3, aD p4, aI x5, aI x6, v7, v8] dl [aI z, aI y1, aD q0] h) := by
  refine (s_go mt_L_law dL_law_596 rfl).trans ?_
  refine (s_go mt_L_law dL_law_597 rfl).trans ?_
  refine (s_go mt_L_law dL_law_599 rfl).trans ?_
  refine (s_go mt_L_law dL_law_600 rfl).trans ?_
  exact q_iaload mt_L_law dL_law_601
theorem e_L_law_671 (sc : SC) (c0 : Nat) (p1 : Nat) (p2 : Nat) (p3 : Nat) (p4 : Nat) (x5 : Int32) (x6 : Int32) (v7 : AV) (v8 : AV) (q0 : Nat) (y1 : Int32) (dl : DL) (h : AH) : Run sc n_L_law 671 [aC c0, aD p1, aD p2, aD p3, aD p4, aI x5, aI x6, v7, v8] dl [aI y1, aD q0] h = bO (ldI sc h (fun t => t == 0) (aC c0) (x5 + (nI 2))) (fun z => Run sc n_L_law 677 [aC c0, aD p1, aD p2, aD p3, aD p4, aI x5, aI x6, v7, v8] dl [aI z, aI y1, aD q0] h) := by
  refine (s_go mt_L_law dL_law_671 rfl).trans ?_
  refine (s_go mt_L_law dL_law_672 rfl).trans ?_
  refine (s_go mt_L_law dL_law_674 rfl).trans ?_
  refine (s_go mt_L_law dL_law_675 rfl).trans ?_
  exact q_iaload mt_L_law dL_law_676
theorem e_L_law_739 (sc : SC) (c0 : Nat) (p1 : Nat) (p2 : Nat) (p3 : Nat) (p4 : Nat) (x5 : Int32) (x6 : Int32) (v7 : AV) (v8 : AV) (q0 : Nat) (y1 : Int32) (dl : DL) (h : AH) : Run sc n_L_law 739 [aC c0, aD p1, aD p2, aD p3, aD p4, aI x5, aI x6, v7, v8] dl [aI y1, aD q0] h = bO (ldI sc h (fun t => t == 0) (aC c0) (x5 + (nI 2))) (fun z => Run sc n_L_law 745 [aC c0, aD p1, aD p2, aD p3, aD p4, aI x5, aI x6, v7, v8] dl [aI z, aI y1, aD q0] h) := by
  refine (s_go mt_L_law dL_law_739 rfl).trans ?_
  refine (s_go mt_L_law dL_law_740 rfl).trans ?_
  refine (s_go mt_L_law dL_law_742 rfl).trans ?_
  refine (s_go mt_L_law dL_law_743 rfl).trans ?_
  exact q_iaload mt_L_law dL_law_744
theorem e_L_law_807 (sc : SC) (c0 : Nat) (p1 : Nat) (p2 : Nat) (p3 : Nat) (p4 : Nat) (x5 : Int32) (x6 : Int32) (v7 : AV) (v8 : AV) (q0 : Nat) (y1 : Int32) (dl : DL) (h : AH) : Run sc n_L_law 807 [aC c0, aD p1, aD p2, aD p3, aD p4, aI x5, aI x6, v7, v8] dl [aI y1, aD q0] h = bO (ldI sc h (fun t => t == 0) (aC c0) (x5 + (nI 2))) (fun z => Run sc n_L_law 813 [aC c0, aD p1, aD p2, aD p3, aD p4, aI x5, aI x6, v7, v8] dl [aI z, aI y1, aD q0] h) := by
  refine (s_go mt_L_law dL_law_807 rfl).trans ?_
  refine (s_go mt_L_law dL_law_808 rfl).trans ?_
  refine (s_go mt_L_law dL_law_810 rfl).trans ?_
  refine (s_go mt_L_law dL_law_811 rfl).trans ?_
  exact q_iaload mt_L_law dL_law_812
theorem e_L_law_929 (sc : SC) (c0 : Nat) (p1 : Nat) (p2 : Nat) (p3 : Nat) (p4 : Nat) (x5 : Int32) (x6 : Int32) (v7 : AV) (v8 : AV) (y0 : Int32) (dl : DL) (h : AH) : Run sc n_L_law 929 [aC c0, aD p1, aD p2, aD p3, aD p4, aI x5, aI x6, v7, v8] dl [aI y0] h = bI (rOK sc h (aD p2) 12 = true) (bC (Call sc n_X10_thrown [aD p2] h) (fun v z => Run sc n_L_law 935 [aC c0, aD p1, aD p2, aD p3, aD p4, aI x5, aI x6, aI y0, v8] (dlc 7 dl) (v.toList ++ []) z) (fun E z => some (.inr E, z))) := by
  refine (s_go mt_L_law dL_law_929 rfl).trans ?_
  refine (s_go mt_L_law dL_law_931 rfl).trans ?_
  exact q_cV mt_L_law dL_law_932 rfl mt_X10_thrown rfl rfl rfl
theorem e_L_law_1002 (sc : SC) (c0 : Nat) (p1 : Nat) (p2 : Nat) (p3 : Nat) (p4 : Nat) (x5 : Int32) (x6 : Int32) (v7 : AV) (v8 : AV) (q0 : Nat) (y1 : Int32) (dl : DL) (h : AH) : Run sc n_L_law 1002 [aC c0, aD p1, aD p2, aD p3, aD p4, aI x5, aI x6, v7, v8] dl [aI y1, aD q0] h = Run sc n_L_law (if y1 = 0 then 1009 else 1005) [aC c0, aD p1, aD p2, aD p3, aD p4, aI x5, aI x6, v7, v8] dl [aD q0] h := by
  exact q_if mt_L_law dL_law_1002 (fun _ _ _ _ => rfl) rfl
theorem e_L_law_1031 (sc : SC) (c0 : Nat) (p1 : Nat) (p2 : Nat) (p3 : Nat) (p4 : Nat) (x5 : Int32) (x6 : Int32) (x7 : Int32) (v8 : AV) (y0 : Int32) (dl : DL) (h : AH) : Run sc n_L_law 1031 [aC c0, aD p1, aD p2, aD p3, aD p4, aI x5, aI x6, aI x7, v8] dl [aI y0] h = Run sc n_L_law (if y0 = x6 then 1038 else 1036) [aC c0, aD p1, aD p2, aD p3, aD p4, aI x5, aI x6, aI x7, v8] dl [] h := by
  refine (s_go mt_L_law dL_law_1031 rfl).trans ?_
  exact q_icmp mt_L_law dL_law_1033 (fun _ _ _ _ => rfl) rfl
theorem e_L_law_1293 (sc : SC) (c0 : Nat) (p1 : Nat) (p2 : Nat) (p3 : Nat) (p4 : Nat) (x5 : Int32) (x6 : Int32) (v7 : AV) (v8 : AV) (y0 : Int32) (dl : DL) (h : AH) : Run sc n_L_law 1293 [aC c0, aD p1, aD p2, aD p3, aD p4, aI x5, aI x6, v7, v8] dl [aI y0] h = bI (rOK sc h (aD p2) 12 = true) (bC (Call sc n_X10_thrown [aD p2] h) (fun v z => Run sc n_L_law 1299 [aC c0, aD p1, aD p2, aD p3, aD p4, aI x5, aI x6, aI y0, v8] (dlc 7 dl) (v.toList ++ []) z) (fun E z => some (.inr E, z))) := by
  refine (s_go mt_L_law dL_law_1293 rfl).trans ?_
  refine (s_go mt_L_law dL_law_1295 rfl).trans ?_
  exact q_cV mt_L_law dL_law_1296 rfl mt_X10_thrown rfl rfl rfl
theorem e_L_law_1352 (sc : SC) (c0 : Nat) (p1 : Nat) (p2 : Nat) (p3 : Nat) (p4 : Nat) (x5 : Int32) (x6 : Int32) (v7 : AV) (v8 : AV) (q0 : Nat) (y1 : Int32) (dl : DL) (h : AH) : Run sc n_L_law 1352 [aC c0, aD p1, aD p2, aD p3, aD p4, aI x5, aI x6, v7, v8] dl [aI y1, aD q0] h = bO (ldI sc h (fun t => t == 0) (aC c0) (x5 + (nI 2))) (fun z => Run sc n_L_law 1358 [aC c0, aD p1, aD p2, aD p3, aD p4, aI x5, aI x6, v7, v8] dl [aI z, aI y1, aD q0] h) := by
  refine (s_go mt_L_law dL_law_1352 rfl).trans ?_
  refine (s_go mt_L_law dL_law_1353 rfl).trans ?_
  refine (s_go mt_L_law dL_law_1355 rfl).trans ?_
  refine (s_go mt_L_law dL_law_1356 rfl).trans ?_
  exact q_iaload mt_L_law dL_law_1357
theorem e_L_law_1421 (sc : SC) (c0 : Nat) (p1 : Nat) (p2 : Nat) (p3 : Nat) (p4 : Nat) (x5 : Int32) (x6 : Int32) (v7 : AV) (v8 : AV) (q0 : Nat) (y1 : Int32) (dl : DL) (h : AH) : Run sc n_L_law 1421 [aC c0, aD p1, aD p2, aD p3, aD p4, aI x5, aI x6, v7, v8] dl [aI y1, aD q0] h = bO (ldI sc h (fun t => t == 0) (aC c0) (x5 + (nI 2))) (fun z => Run sc n_L_law 1427 [aC c0, aD p1, aD p2, aD p3, aD p4, aI x5, aI x6, v7, v8] dl [aI z, aI y1, aD q0] h) := by
  refine (s_go mt_L_law dL_law_1421 rfl).trans ?_
  refine (s_go mt_L_law dL_law_1422 rfl).trans ?_
  refine (s_go mt_L_law dL_law_1424 rfl).trans ?_
  refine (s_go mt_L_law dL_law_1425 rfl).trans ?_
  exact q_iaload mt_L_law dL_law_1426
theorem e_L_law_199 (sc : SC) (c0 : Nat) (p1 : Nat) (p2 : Nat) (p3 : Nat) (p4 : Nat) (x5 : Int32) (x6 : Int32) (x7 : Int32) (v8 : AV) (y0 : Int32) (dl : DL) (h : AH) : Run sc n_L_law 199 [aC c0, aD p1, aD p2, aD p3, aD p4, aI x5, aI x6, aI x7, v8] dl [aI y0] h = Run sc n_L_law (if y0 = x6 then 206 else 204) [aC c0, aD p1, aD p2, aD p3, aD p4, aI x5, aI x6, aI x7, v8] dl [] h := by
  refine (s_go mt_L_law dL_law_199 rfl).trans ?_
  exact q_icmp mt_L_law dL_law_201 (fun _ _ _ _ => rfl) rfl
theorem e_L_law_328 (sc : SC) (c0 : Nat) (p1 : Nat) (p2 : Nat) (p3 : Nat) (p4 : Nat) (x5 : Int32) (x6 : Int32) (v7 : AV) (v8 : AV) (q0 : Nat) (y1 : Int32) (y2 : Int32) (dl : DL) (h : AH) : Run sc n_L_law 328 [aC c0, aD p1, aD p2, aD p3, aD p4, aI x5, aI x6, v7, v8] dl [aI y2, aI y1, aD q0] h = bI (rOK sc h (aD q0) 12 = true) (bC (Call sc n_X10_instruction [aD q0, aI y1, aI y2] h) (fun v z => Run sc n_L_law 331 [aC c0, aD p1, aD p2, aD p3, aD p4, aI x5, aI x6, v7, v8] dl (v.toList ++ []) z) (fun E z => some (.inr E, z))) := by
  exact q_cV mt_L_law dL_law_328 rfl mt_X10_instruction rfl rfl rfl
theorem e_L_law_422 (sc : SC) (c0 : Nat) (p1 : Nat) (p2 : Nat) (p3 : Nat) (p4 : Nat) (x5 : Int32) (x6 : Int32) (v7 : AV) (v8 : AV) (q0 : Nat) (y1 : Int32) (y2 : Int32) (dl : DL) (h : AH) : Run sc n_L_law 422 [aC c0, aD p1, aD p2, aD p3, aD p4, aI x5, aI x6, v7, v8] dl [aI y2, aI y1, aD q0] h = bI (rOK sc h (aD q0) 12 = true) (bC (Call sc n_X10_entry [aD q0, aI y1, aI y2] h) (fun v z => Run sc n_L_law 425 [aC c0, aD p1, aD p2, aD p3, aD p4, aI x5, aI x6, v7, v8] dl (v.toList ++ []) z) (fun E z => some (.inr E, z))) := by
  exact q_cV mt_L_law dL_law_422 rfl mt_X10_entry rfl rfl rfl
theorem e_L_law_487 (sc : SC) (c0 : Nat) (p1 : Nat) (p2 : Nat) (p3 : Nat) (p4 : Nat) (x5 : Int32) (x6 : Int32) (x7 : Int32) (v8 : AV) (y0 : Int32) (dl : DL) (h : AH) : Run sc n_L_law 487 [aC c0, aD p1, aD p2, aD p3, aD p4, aI x5, aI x6, aI x7, v8] dl [aI y0] h = Run sc n_L_law (if y0 = x6 then 494 else 492) [aC c0, aD p1, aD p2, aD p3, aD p4, aI x5, aI x6, aI x7, v8] dl [] h := by
  refine (s_go mt_L_law dL_law_487 rfl).trans ?_
  exact q_icmp mt_L_law dL_law_489 (fun _ _ _ _ => rfl) rfl
theorem e_L_law_543 (sc : SC) (c0 : Nat) (p1 : Nat) (p2 : Nat) (p3 : Nat) (p4 : Nat) (x5 : Int32) (x6 : Int32) (x7 : Int32) (v8 : AV) (y0 : Int32) (dl : DL) (h : AH) : Run sc n_L_law 543 [aC c0, aD p1, aD p2, aD p3, aD p4, aI x5, aI x6, aI x7, v8] dl [aI y0] h = Run sc n_L_law (if y0 = x6 then 550 else 548) [aC c0, aD p1, aD p2, aD p3, aD p4, aI x5, aI x6, aI x7, v8] dl [] h := by
  refine (s_go mt_L_law dL_law_543 rfl).trans ?_
  exact q_icmp mt_L_law dL_law_545 (fun _ _ _ _ => rfl) rfl
theorem e_L_law_602 (sc : SC) (c0 : Nat) (p1 : Nat) (p2 : Nat) (p3 : Nat) (p4 : Nat) (x5 : Int32) (x6 : Int32) (v7 : AV) (v8 : AV) (q0 : Nat) (y1 : Int32) (y2 : Int32) (dl : DL) (h : AH) : Run sc n_L_law 602 [aC c0, aD p1, aD p2, aD p3, aD p4, aI x5, aI x6, v7, v8] dl [aI y2, aI y1, aD q0] h = bI (rOK sc h (aD q0) 12 = true) (bC (Call sc n_X10_isIndependent [aD q0, aI y1, aI y2] h) (fun v z => Run sc n_L_law 605 [aC c0, aD p1, aD p2, aD p3, aD p4, aI x5, aI x6, v7, v8] dl (v.toList ++ []) z) (fun E z => some (.inr E, z))) := by
  exact q_cV mt_L_law dL_law_602 rfl mt_X10_isIndependent rfl rfl rfl
theorem e_L_law_677 (sc : SC) (c0 : Nat) (p1 : Nat) (p2 : Nat) (p3 : Nat) (p4 : Nat) (x5 : Int32) (x6 : Int32) (v7 : AV) (v8 : AV) (q0 : Nat) (y1 : Int32) (y2 : Int32) (dl : DL) (h : AH) : Run sc n_L_law 677 [aC c0, aD p1, aD p2, aD p3, aD p4, aI x5, aI x6, v7, v8] dl [aI y2, aI y1, aD q0] h = bI (rOK sc h (aD q0) 12 = true) (bC (Call sc n_X10_candidate [aD q0, aI y1, aI y2] h) (fun v z => Run sc n_L_law 680 [aC c0, aD p1, aD p2, aD p3, aD p4, aI x5, aI x6, v7, v8] dl (v.toList ++ []) z) (fun E z => some (.inr E, z))) := by
  exact q_cV mt_L_law dL_law_677 rfl mt_X10_candidate rfl rfl rfl
theorem e_L_law_745 (sc : SC) (c0 : Nat) (p1 : Nat) (p2 : Nat) (p3 : Nat) (p4 : Nat) (x5 : Int32) (x6 : Int32) (v7 : AV) (v8 : AV) (q0 : Nat) (y1 : Int32) (y2 : Int32) (dl : DL) (h : AH) : Run sc n_L_law 745 [aC c0, aD p1, aD p2, aD p3, aD p4, aI x5, aI x6, v7, v8] dl [aI y2, aI y1, aD q0] h = bI (rOK sc h (aD q0) 12 = true) (bC (Call sc n_X10_fill [aD q0, aI y1, aI y2] h) (fun v z => Run sc n_L_law 748 [aC c0, aD p1, aD p2, aD p3, aD p4, aI x5, aI x6, v7, v8] dl (v.toList ++ []) z) (fun E z => some (.inr E, z))) := by
  exact q_cV mt_L_law dL_law_745 rfl mt_X10_fill rfl rfl rfl
theorem e_L_law_813 (sc : SC) (c0 : Nat) (p1 : Nat) (p2 : Nat) (p3 : Nat) (p4 : Nat) (x5 : Int32) (x6 : Int32) (v7 : AV) (v8 : AV) (q0 : Nat) (y1 : Int32) (y2 : Int32) (dl : DL) (h : AH) : Run sc n_L_law 813 [aC c0, aD p1, aD p2, aD p3, aD p4, aI x5, aI x6, v7, v8] dl [aI y2, aI y1, aD q0] h = bI (rOK sc h (aD q0) 12 = true) (bC (Call sc n_X10_fillAll [aD q0, aI y1, aI y2] h) (fun v z => Run sc n_L_law 816 [aC c0, aD p1, aD p2, aD p3, aD p4, aI x5, aI x6, v7, v8] dl (v.toList ++ []) z) (fun E z => some (.inr E, z))) := by
  exact q_cV mt_L_law dL_law_813 rfl mt_X10_fillAll rfl rfl rfl
theorem e_L_law_935 (sc : SC) (c0 : Nat) (p1 : Nat) (p2 : Nat) (p3 : Nat) (p4 : Nat) (x5 : Int32) (x6 : Int32) (x7 : Int32) (v8 : AV) (y0 : Int32) (dl : DL) (h : AH) : Run sc n_L_law 935 [aC c0, aD p1, aD p2, aD p3, aD p4, aI x5, aI x6, aI x7, v8] dl [aI y0] h = Run sc n_L_law (if y0 = x6 then 942 else 940) [aC c0, aD p1, aD p2, aD p3, aD p4, aI x5, aI x6, aI x7, v8] dl [] h := by
  refine (s_go mt_L_law dL_law_935 rfl).trans ?_
  exact q_icmp mt_L_law dL_law_937 (fun _ _ _ _ => rfl) rfl
theorem e_L_law_1299 (sc : SC) (c0 : Nat) (p1 : Nat) (p2 : Nat) (p3 : Nat) (p4 : Nat) (x5 : Int32) (x6 : Int32) (x7 : Int32) (v8 : AV) (y0 : Int32) (dl : DL) (h : AH) : Run sc n_L_law 1299 [aC c0, aD p1, aD p2, aD p3, aD p4, aI x5, aI x6, aI x7, v8] dl [aI y0] h = Run sc n_L_law (if y0 = x6 then 1306 else 1304) [aC c0, aD p1, aD p2, aD p3, aD p4, aI x5, aI x6, aI x7, v8] dl [] h := by
  refine (s_go mt_L_law dL_law_1299 rfl).trans ?_
  exact q_icmp mt_L_law dL_law_1301 (fun _ _ _ _ => rfl) rfl
theorem e_L_law_1358 (sc : SC) (c0 : Nat) (p1 : Nat) (p2 : Nat) (p3 : Nat) (p4 : Nat) (x5 : Int32) (x6 : Int32) (v7 : AV) (v8 : AV) (q0 : Nat) (y1 : Int32) (y2 : Int32) (dl : DL) (h : AH) : Run sc n_L_law 1358 [aC c0, aD p1, aD p2, aD p3, aD p4, aI x5, aI x6, v7, v8] dl [aI y2, aI y1, aD q0] h = bI (rOK sc h (aD q0) 12 = true) (bC (Call sc n_X10_differences [aD q0, aI y1, aI y2] h) (fun v z => Run sc n_L_law 1361 [aC c0, aD p1, aD p2, aD p3, aD p4, aI x5, aI x6, v7, v8] dl (v.toList ++ []) z) (fun E z => some (.inr E, z))) := by
  exact q_cV mt_L_law dL_law_1358 rfl mt_X10_differences rfl rfl rfl
theorem e_L_law_1427 (sc : SC) (c0 : Nat) (p1 : Nat) (p2 : Nat) (p3 : Nat) (p4 : Nat) (x5 : Int32) (x6 : Int32) (v7 : AV) (v8 : AV) (q0 : Nat) (y1 : Int32) (y2 : Int32) (dl : DL) (h : AH) : Run sc n_L_law 1427 [aC c0, aD p1, aD p2, aD p3, aD p4, aI x5, aI x6, v7, v8] dl [aI y2, aI y1, aD q0] h = bI (rOK sc h (aD q0) 12 = true) (bC (Call sc n_X10_meanSteps [aD q0, aI y1, aI y2] h) (fun v z => Run sc n_L_law 1430 [aC c0, aD p1, aD p2, aD p3, aD p4, aI x5, aI x6, v7, v8] dl (v.toList ++ []) z) (fun E z => some (.inr E, z))) := by
  exact q_cV mt_L_law dL_law_1427 rfl mt_X10_meanSteps rfl rfl rfl
theorem e_L_law_331 (sc : SC) (c0 : Nat) (p1 : Nat) (p2 : Nat) (p3 : Nat) (p4 : Nat) (x5 : Int32) (x6 : Int32) (v7 : AV) (v8 : AV) (y0 : Int32) (dl : DL) (h : AH) : Run sc n_L_law 331 [aC c0, aD p1, aD p2, aD p3, aD p4, aI x5, aI x6, v7, v8] dl [aI y0] h = bI (rOK sc h (aD p2) 12 = true) (bC (Call sc n_X10_thrown [aD p2] h) (fun v z => Run sc n_L_law 337 [aC c0, aD p1, aD p2, aD p3, aD p4, aI x5, aI x6, aI y0, v8] (dlc 7 dl) (v.toList ++ []) z) (fun E z => some (.inr E, z))) := by
  refine (s_go mt_L_law dL_law_331 rfl).trans ?_
  refine (s_go mt_L_law dL_law_333 rfl).trans ?_
  exact q_cV mt_L_law dL_law_334 rfl mt_X10_thrown rfl rfl rfl
theorem e_L_law_425 (sc : SC) (c0 : Nat) (p1 : Nat) (p2 : Nat) (p3 : Nat) (p4 : Nat) (x5 : Int32) (x6 : Int32) (v7 : AV) (v8 : AV) (y0 : Int32) (dl : DL) (h : AH) : Run sc n_L_law 425 [aC c0, aD p1, aD p2, aD p3, aD p4, aI x5, aI x6, v7, v8] dl [aI y0] h = bI (rOK sc h (aD p2) 12 = true) (bC (Call sc n_X10_thrown [aD p2] h) (fun v z => Run sc n_L_law 431 [aC c0, aD p1, aD p2, aD p3, aD p4, aI x5, aI x6, aI y0, v8] (dlc 7 dl) (v.toList ++ []) z) (fun E z => some (.inr E, z))) := by
  refine (s_go mt_L_law dL_law_425 rfl).trans ?_
  refine (s_go mt_L_law dL_law_427 rfl).trans ?_
  exact q_cV mt_L_law dL_law_428 rfl mt_X10_thrown rfl rfl rfl
theorem e_L_law_605 (sc : SC) (c0 : Nat) (p1 : Nat) (p2 : Nat) (p3 : Nat) (p4 : Nat) (x5 : Int32) (x6 : Int32) (v7 : AV) (v8 : AV) (y0 : Int32) (dl : DL) (h : AH) : Run sc n_L_law 605 [aC c0, aD p1, aD p2, aD p3, aD p4, aI x5, aI x6, v7, v8] dl [aI y0] h = bI (rOK sc h (aD p2) 12 = true) (bC (Call sc n_X10_thrown [aD p2] h) (fun v z => Run sc n_L_law 611 [aC c0, aD p1, aD p2, aD p3, aD p4, aI x5, aI x6, aI y0, v8] (dlc 7 dl) (v.toList ++ []) z) (fun E z => some (.inr E, z))) := by
  refine (s_go mt_L_law dL_law_605 rfl).trans ?_
  refine (s_go mt_L_law dL_law_607 rfl).trans ?_
  exact q_cV mt_L_law dL_law_608 rfl mt_X10_thrown rfl rfl rfl
theorem e_L_law_680 (sc : SC) (c0 : Nat) (p1 : Nat) (p2 : Nat) (p3 : Nat) (p4 : Nat) (x5 : Int32) (x6 : Int32) (v7 : AV) (v8 : AV) (y0 : Int32) (dl : DL) (h : AH) : Run sc n_L_law 680 [aC c0, aD p1, aD p2, aD p3, aD p4, aI x5, aI x6, v7, v8] dl [aI y0] h = bI (rOK sc h (aD p2) 12 = true) (bC (Call sc n_X10_thrown [aD p2] h) (fun v z => Run sc n_L_law 686 [aC c0, aD p1, aD p2, aD p3, aD p4, aI x5, aI x6, aI y0, v8] (dlc 7 dl) (v.toList ++ []) z) (fun E z => some (.inr E, z))) := by
  refine (s_go mt_L_law dL_law_680 rfl).trans ?_
  refine (s_go mt_L_law dL_law_682 rfl).trans ?_
  exact q_cV mt_L_law dL_law_683 rfl mt_X10_thrown rfl rfl rfl
theorem e_L_law_748 (sc : SC) (c0 : Nat) (p1 : Nat) (p2 : Nat) (p3 : Nat) (p4 : Nat) (x5 : Int32) (x6 : Int32) (v7 : AV) (v8 : AV) (y0 : Int32) (dl : DL) (h : AH) : Run sc n_L_law 748 [aC c0, aD p1, aD p2, aD p3, aD p4, aI x5, aI x6, v7, v8] dl [aI y0] h = bI (rOK sc h (aD p2) 12 = true) (bC (Call sc n_X10_thrown [aD p2] h) (fun v z => Run sc n_L_law 754 [aC c0, aD p1, aD p2, aD p3, aD p4, aI x5, aI x6, aI y0, v8] (dlc 7 dl) (v.toList ++ []) z) (fun E z => some (.inr E, z))) := by
  refine (s_go mt_L_law dL_law_748 rfl).trans ?_
  refine (s_go mt_L_law dL_law_750 rfl).trans ?_
  exact q_cV mt_L_law dL_law_751 rfl mt_X10_thrown rfl rfl rfl
theorem e_L_law_816 (sc : SC) (c0 : Nat) (p1 : Nat) (p2 : Nat) (p3 : Nat) (p4 : Nat) (x5 : Int32) (x6 : Int32) (v7 : AV) (v8 : AV) (y0 : Int32) (dl : DL) (h : AH) : Run sc n_L_law 816 [aC c0, aD p1, aD p2, aD p3, aD p4, aI x5, aI x6, v7, v8] dl [aI y0] h = bI (rOK sc h (aD p2) 12 = true) (bC (Call sc n_X10_thrown [aD p2] h) (fun v z => Run sc n_L_law 822 [aC c0, aD p1, aD p2, aD p3, aD p4, aI x5, aI x6, aI y0, v8] (dlc 7 dl) (v.toList ++ []) z) (fun E z => some (.inr E, z))) := by
  refine (s_go mt_L_law dL_law_816 rfl).trans ?_
  refine (s_go mt_L_law dL_law_818 rfl).trans ?_
  exact q_cV mt_L_law dL_law_819 rfl mt_X10_thrown rfl rfl rfl
theorem e_L_law_1361 (sc : SC) (c0 : Nat) (p1 : Nat) (p2 : Nat) (p3 : Nat) (p4 : Nat) (x5 : Int32) (x6 : Int32) (v7 : AV) (v8 : AV) (y0 : Int32) (dl : DL) (h : AH) : Run sc n_L_law 1361 [aC c0, aD p1, aD p2, aD p3, aD p4, aI x5, aI x6, v7, v8] dl [aI y0] h = bI (rOK sc h (aD p2) 12 = true) (bC (Call sc n_X10_thrown [aD p2] h) (fun v z => Run sc n_L_law 1367 [aC c0, aD p1, aD p2, aD p3, aD p4, aI x5, aI x6, aI y0, v8] (dlc 7 dl) (v.toList ++ []) z) (fun E z => some (.inr E, z))) := by
  refine (s_go mt_L_law dL_law_1361 rfl).trans ?_
  refine (s_go mt_L_law dL_law_1363 rfl).trans ?_
  exact q_cV mt_L_law dL_law_1364 rfl mt_X10_thrown rfl rfl rfl
theorem e_L_law_1430 (sc : SC) (c0 : Nat) (p1 : Nat) (p2 : Nat) (p3 : Nat) (p4 : Nat) (x5 : Int32) (x6 : Int32) (v7 : AV) (v8 : AV) (e0 : UInt64) (dl : DL) (h : AH) : Run sc n_L_law 1430 [aC c0, aD p1, aD p2, aD p3, aD p4, aI x5, aI x6, v7, v8] dl [aE e0] h = bI (rOK sc h (aD p2) 12 = true) (bC (Call sc n_X10_thrown [aD p2] h) (fun v z => Run sc n_L_law 1436 [aC c0, aD p1, aD p2, aD p3, aD p4, aI x5, aI x6, aU, aU] (some (7, e0)) (v.toList ++ []) z) (fun E z => some (.inr E, z))) := by
  refine (s_go mt_L_law dL_law_1430 rfl).trans ?_
  refine (s_go mt_L_law dL_law_1432 rfl).trans ?_
  exact q_cV mt_L_law dL_law_1433 rfl mt_X10_thrown rfl rfl rfl
theorem e_L_law_337 (sc : SC) (c0 : Nat) (p1 : Nat) (p2 : Nat) (p3 : Nat) (p4 : Nat) (x5 : Int32) (x6 : Int32) (x7 : Int32) (v8 : AV) (y0 : Int32) (dl : DL) (h : AH) : Run sc n_L_law 337 [aC c0, aD p1, aD p2, aD p3, aD p4, aI x5, aI x6, aI x7, v8] dl [aI y0] h = Run sc n_L_law (if y0 = x6 then 344 else 342) [aC c0, aD p1, aD p2, aD p3, aD p4, aI x5, aI x6, aI x7, v8] dl [] h := by
  refine (s_go mt_L_law dL_law_337 rfl).trans ?_
  exact q_icmp mt_L_law dL_law_339 (fun _ _ _ _ => rfl) rfl
theorem e_L_law_431 (sc : SC) (c0 : Nat) (p1 : Nat) (p2 : Nat) (p3 : Nat) (p4 : Nat) (x5 : Int32) (x6 : Int32) (x7 : Int32) (v8 : AV) (y0 : Int32) (dl : DL) (h : AH) : Run sc n_L_law 431 [aC c0, aD p1, aD p2, aD p3, aD p4, aI x5, aI x6, aI x7, v8] dl [aI y0] h = Run sc n_L_law (if y0 = x6 then 438 else 436) [aC c0, aD p1, aD p2, aD p3, aD p4, aI x5, aI x6, aI x7, v8] dl [] h := by
  refine (s_go mt_L_law dL_law_431 rfl).trans ?_
  exact q_icmp mt_L_law dL_law_433 (fun _ _ _ _ => rfl) rfl
theorem e_L_law_611 (sc : SC) (c0 : Nat) (p1 : Nat) (p2 : Nat) (p3 : Nat) (p4 : Nat) (x5 : Int32) (x6 : Int32) (x7 : Int32) (v8 : AV) (y0 : Int32) (dl : DL) (h : AH) : Run sc n_L_law 611 [aC c0, aD p1, aD p2, aD p3, aD p4, aI x5, aI x6, aI x7, v8] dl [aI y0] h = Run sc n_L_law (if y0 = x6 then 618 else 616) [aC c0, aD p1, aD p2, aD p3, aD p4, aI x5, aI x6, aI x7, v8] dl [] h := by
  refine (s_go mt_L_law dL_law_611 rfl).trans ?_
  exact q_icmp mt_L_law dL_law_613 (fun _ _ _ _ => rfl) rfl
theorem e_L_law_686 (sc : SC) (c0 : Nat) (p1 : Nat) (p2 : Nat) (p3 : Nat) (p4 : Nat) (x5 : Int32) (x6 : Int32) (x7 : Int32) (v8 : AV) (y0 : Int32) (dl : DL) (h : AH) : Run sc n_L_law 686 [aC c0, aD p1, aD p2, aD p3, aD p4, aI x5, aI x6, aI x7, v8] dl [aI y0] h = Run sc n_L_law (if y0 = x6 then 693 else 691) [aC c0, aD p1, aD p2, aD p3, aD p4, aI x5, aI x6, aI x7, v8] dl [] h := by
  refine (s_go mt_L_law dL_law_686 rfl).trans ?_
  exact q_icmp mt_L_law dL_law_688 (fun _ _ _ _ => rfl) rfl
theorem e_L_law_754 (sc : SC) (c0 : Nat) (p1 : Nat) (p2 : Nat) (p3 : Nat) (p4 : Nat) (x5 : Int32) (x6 : Int32) (x7 : Int32) (v8 : AV) (y0 : Int32) (dl : DL) (h : AH) : Run sc n_L_law 754 [aC c0, aD p1, aD p2, aD p3, aD p4, aI x5, aI x6, aI x7, v8] dl [aI y0] h = Run sc n_L_law (if y0 = x6 then 761 else 759) [aC c0, aD p1, aD p2, aD p3, aD p4, aI x5, aI x6, aI x7, v8] dl [] h := by
  refine (s_go mt_L_law dL_law_754 rfl).trans ?_
  exact q_icmp mt_L_law dL_law_756 (fun _ _ _ _ => rfl) rfl
theorem e_L_law_822 (sc : SC) (c0 : Nat) (p1 : Nat) (p2 : Nat) (p3 : Nat) (p4 : Nat) (x5 : Int32) (x6 : Int32) (x7 : Int32) (v8 : AV) (y0 : Int32) (dl : DL) (h : AH) : Run sc n_L_law 822 [aC c0, aD p1, aD p2, aD p3, aD p4, aI x5, aI x6, aI x7, v8] dl [aI y0] h = Run sc n_L_law (if y0 = x6 then 829 else 827) [aC c0, aD p1, aD p2, aD p3, aD p4, aI x5, aI x6, aI x7, v8] dl [] h := by
  refine (s_go mt_L_law dL_law_822 rfl).trans ?_
  exact q_icmp mt_L_law dL_law_824 (fun _ _ _ _ => rfl) rfl
theorem e_L_law_1367 (sc : SC) (c0 : Nat) (p1 : Nat) (p2 : Nat) (p3 : Nat) (p4 : Nat) (x5 : Int32) (x6 : Int32) (x7 : Int32) (v8 : AV) (y0 : Int32) (dl : DL) (h : AH) : Run sc n_L_law 1367 [aC c0, aD p1, aD p2, aD p3, aD p4, aI x5, aI x6, aI x7, v8] dl [aI y0] h = Run sc n_L_law (if y0 = x6 then 1374 else 1372) [aC c0, aD p1, aD p2, aD p3, aD p4, aI x5, aI x6, aI x7, v8] dl [] h := by
  refine (s_go mt_L_law dL_law_1367 rfl).trans ?_
  exact q_icmp mt_L_law dL_law_1369 (fun _ _ _ _ => rfl) rfl
theorem e_L_law_1436 (sc : SC) (c0 : Nat) (p1 : Nat) (p2 : Nat) (p3 : Nat) (p4 : Nat) (x5 : Int32) (x6 : Int32) (v7 : AV) (v8 : AV) (y0 : Int32) (dl : DL) (h : AH) : Run sc n_L_law 1436 [aC c0, aD p1, aD p2, aD p3, aD p4, aI x5, aI x6, v7, v8] dl [aI y0] h = Run sc n_L_law (if y0 = x6 then 1443 else 1441) [aC c0, aD p1, aD p2, aD p3, aD p4, aI x5, aI x6, v7, v8] dl [] h := by
  refine (s_go mt_L_law dL_law_1436 rfl).trans ?_
  exact q_icmp mt_L_law dL_law_1438 (fun _ _ _ _ => rfl) rfl
