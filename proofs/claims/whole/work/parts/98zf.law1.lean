/-! PURE 79: the helpers of the law -/
section
variable {sc : SC} {h h1 : AH} {km ks E : Nat} {kp sv : Bool} {a x y z : Int32}
theorem out_L (ho : OUT h) (x : Int64) : ∃ h2, stL h 71 (nI 0) x = some h2 ∧ ldL h2 71 (nI 0) = some x ∧ OUT h2 ∧ LK (fun p => p = 71) 0 h h2 := by
  obtain ⟨⟨f, g1⟩, f2, g2⟩ := ho
  have e1 : stL h 71 (nI 0) x = some (hset h 71 (oL 1 (vp_updL f (nI 0).toNatClampNeg x))) := by
    unfold stL
    rw [g1]
    rfl
  have e2 : hget (hset h 71 (oL 1 (vp_updL f (nI 0).toNatClampNeg x))) 71 = some (oL 1 (vp_updL f (nI 0).toNatClampNeg x)) := hget_set g1
  refine ⟨_, e1, ?_, ⟨⟨_, e2⟩, f2, (hget_ne (by omega)).trans g2⟩, LK.of (fr_set g1 rfl)⟩
  unfold ldL
  rw [e2]
  rfl
theorem out_E (ho : OUT h) (x : UInt64) : ∃ h2, stE h 72 (nI 0) x = some h2 ∧ ldE h2 72 (nI 0) = some x ∧ OUT h2 ∧ LK (fun p => p = 72) 0 h h2 := by
  obtain ⟨⟨f2, g2⟩, f, g1⟩ := ho
  have e1 : stE h 72 (nI 0) x = some (hset h 72 (oE 1 (vf_upd f (nI 0).toNatClampNeg x))) := by
    unfold stE
    rw [g1]
    rfl
  have e2 : hget (hset h 72 (oE 1 (vf_upd f (nI 0).toNatClampNeg x))) 72 = some (oE 1 (vf_upd f (nI 0).toNatClampNeg x)) := hget_set g1
  refine ⟨_, e1, ?_, ⟨⟨f2, (hget_ne (by omega)).trans g2⟩, _, e2⟩, LK.of (fr_set g1 rfl)⟩
  unfold ldE
  rw [e2]
  rfl
theorem L_feed_k (bo : BO h km ks kp sv) (ho : OUT h1) (hq : Call sc n_X9_feed [aD 0, aI x] h = some (.inl (some (aI a)), h1)) : ∃ h2, Call sc n_L_feed [aD 0, aI x, aD 71] h = some (.inl (some (aI (nI 0))), h2) ∧ ldL h2 71 (nI 0) = some a.toInt64 ∧ OUT h2 ∧ LK (fun p => p = 71) 0 h1 h2 := by
  obtain ⟨h2, e1, e2, e3, e4⟩ := out_L ho a.toInt64
  refine ⟨h2, ?_, e2, e3, e4⟩
  have ok0 := bo.ok (sc := sc)
  simp only [c0_L_feed, e_L_feed_0, e_L_feed_7, e_L_feed_9, ok0, hq, bO_some, bF_I, bF_D, bF_C, bC_v, pk_mul, nI_add, Option.toList, List.cons_append, List.nil_append, e1]
theorem L_feed_x1 (bo : BO h km ks kp sv) (hq : Call sc n_X9_feed [aD 0, aI x] h = some (.inr 0, h1)) : Call sc n_L_feed [aD 0, aI x, aD 71] h = some (.inl (some (aI (nI 1))), h1) := by
  have ok0 := bo.ok (sc := sc)
  simp only [c0_L_feed, e_L_feed_0, ok0, hq]
  have e1 : hnd mi_L_feed 4 0 (mHH mi_L_feed) = some (some (3, 13)) := by rfl
  show xh sc n_L_feed [aD 0, aI x, aD 71, aU] none h1 0 (hnd mi_L_feed 4 0 (mHH mi_L_feed)) = _
  rw [e1]
  show Run sc n_L_feed 13 [aD 0, aI x, aD 71, aU] none [] h1 = _
  rw [e_L_feed_13]
theorem L_parse_k (bo : BO h km ks kp sv) (ho : OUT h1) (hq : Call sc n_X9_parse [aD 0] h = some (.inl (some (aI a)), h1)) : ∃ h2, Call sc n_L_parse [aD 0, aD 71] h = some (.inl (some (aI (nI 0))), h2) ∧ ldL h2 71 (nI 0) = some a.toInt64 ∧ OUT h2 ∧ LK (fun p => p = 71) 0 h1 h2 := by
  obtain ⟨h2, e1, e2, e3, e4⟩ := out_L ho a.toInt64
  refine ⟨h2, ?_, e2, e3, e4⟩
  have ok0 := bo.ok (sc := sc)
  simp only [c0_L_parse, e_L_parse_0, e_L_parse_6, e_L_parse_8, ok0, hq, bO_some, bF_I, bF_D, bF_C, bC_v, pk_mul, nI_add, Option.toList, List.cons_append, List.nil_append, e1]
theorem L_parse_x1 (bo : BO h km ks kp sv) (hq : Call sc n_X9_parse [aD 0] h = some (.inr 1, h1)) : Call sc n_L_parse [aD 0, aD 71] h = some (.inl (some (aI (nI 1))), h1) := by
  have ok0 := bo.ok (sc := sc)
  simp only [c0_L_parse, e_L_parse_0, ok0, hq]
  have e1 : hnd mi_L_parse 3 1 (mHH mi_L_parse) = some (some (2, 12)) := by rfl
  show xh sc n_L_parse [aD 0, aD 71, aU] none h1 1 (hnd mi_L_parse 3 1 (mHH mi_L_parse)) = _
  rw [e1]
  show Run sc n_L_parse 12 [aD 0, aD 71, aU] none [] h1 = _
  rw [e_L_parse_12]
theorem L_parse_x2 (bo : BO h km ks kp sv) (hq : Call sc n_X9_parse [aD 0] h = some (.inr 0, h1)) : Call sc n_L_parse [aD 0, aD 71] h = some (.inl (some (aI (nI 2))), h1) := by
  have ok0 := bo.ok (sc := sc)
  simp only [c0_L_parse, e_L_parse_0, ok0, hq]
  have e1 : hnd mi_L_parse 3 0 (mHH mi_L_parse) = some (some (2, 15)) := by rfl
  show xh sc n_L_parse [aD 0, aD 71, aU] none h1 0 (hnd mi_L_parse 3 0 (mHH mi_L_parse)) = _
  rw [e1]
  show Run sc n_L_parse 15 [aD 0, aD 71, aU] none [] h1 = _
  rw [e_L_parse_15]
theorem L_instruction_k (bo : BO h km ks kp sv) (ho : OUT h1) (hq : Call sc n_X9_instruction [aD 0, aI x, aI y] h = some (.inl (some (aI a)), h1)) : ∃ h2, Call sc n_L_instruction [aD 0, aI x, aI y, aD 71] h = some (.inl (some (aI (nI 0))), h2) ∧ ldL h2 71 (nI 0) = some a.toInt64 ∧ OUT h2 ∧ LK (fun p => p = 71) 0 h1 h2 := by
  obtain ⟨h2, e1, e2, e3, e4⟩ := out_L ho a.toInt64
  refine ⟨h2, ?_, e2, e3, e4⟩
  have ok0 := bo.ok (sc := sc)
  simp only [c0_L_instruction, e_L_instruction_0, e_L_instruction_8, e_L_instruction_10, ok0, hq, bO_some, bF_I, bF_D, bF_C, bC_v, pk_mul, nI_add, Option.toList, List.cons_append, List.nil_append, e1]
theorem L_instruction_x1 (bo : BO h km ks kp sv) (hq : Call sc n_X9_instruction [aD 0, aI x, aI y] h = some (.inr 2, h1)) : Call sc n_L_instruction [aD 0, aI x, aI y, aD 71] h = some (.inl (some (aI (nI 1))), h1) := by
  have ok0 := bo.ok (sc := sc)
  simp only [c0_L_instruction, e_L_instruction_0, ok0, hq]
  have e1 : hnd mi_L_instruction 5 2 (mHH mi_L_instruction) = some (some (4, 15)) := by rfl
  show xh sc n_L_instruction [aD 0, aI x, aI y, aD 71, aU] none h1 2 (hnd mi_L_instruction 5 2 (mHH mi_L_instruction)) = _
  rw [e1]
  show Run sc n_L_instruction 15 [aD 0, aI x, aI y, aD 71, aU] none [] h1 = _
  rw [e_L_instruction_15]
theorem L_instruction_x2 (bo : BO h km ks kp sv) (hq : Call sc n_X9_instruction [aD 0, aI x, aI y] h = some (.inr 1, h1)) : Call sc n_L_instruction [aD 0, aI x, aI y, aD 71] h = some (.inl (some (aI (nI 2))), h1) := by
  have ok0 := bo.ok (sc := sc)
  simp only [c0_L_instruction, e_L_instruction_0, ok0, hq]
  have e1 : hnd mi_L_instruction 5 1 (mHH mi_L_instruction) = some (some (4, 19)) := by rfl
  show xh sc n_L_instruction [aD 0, aI x, aI y, aD 71, aU] none h1 1 (hnd mi_L_instruction 5 1 (mHH mi_L_instruction)) = _
  rw [e1]
  show Run sc n_L_instruction 19 [aD 0, aI x, aI y, aD 71, aU] none [] h1 = _
  rw [e_L_instruction_19]
theorem L_entry_k (bo : BO h km ks kp sv) (ho : OUT h1) (hq : Call sc n_X9_entry [aD 0, aI x, aI y] h = some (.inl (some (aI a)), h1)) : ∃ h2, Call sc n_L_entry [aD 0, aI x, aI y, aD 71] h = some (.inl (some (aI (nI 0))), h2) ∧ ldL h2 71 (nI 0) = some a.toInt64 ∧ OUT h2 ∧ LK (fun p => p = 71) 0 h1 h2 := by
  obtain ⟨h2, e1, e2, e3, e4⟩ := out_L ho a.toInt64
  refine ⟨h2, ?_, e2, e3, e4⟩
  have ok0 := bo.ok (sc := sc)
  simp only [c0_L_entry, e_L_entry_0, e_L_entry_8, e_L_entry_10, ok0, hq, bO_some, bF_I, bF_D, bF_C, bC_v, pk_mul, nI_add, Option.toList, List.cons_append, List.nil_append, e1]
theorem L_entry_x1 (bo : BO h km ks kp sv) (hq : Call sc n_X9_entry [aD 0, aI x, aI y] h = some (.inr 2, h1)) : Call sc n_L_entry [aD 0, aI x, aI y, aD 71] h = some (.inl (some (aI (nI 1))), h1) := by
  have ok0 := bo.ok (sc := sc)
  simp only [c0_L_entry, e_L_entry_0, ok0, hq]
  have e1 : hnd mi_L_entry 5 2 (mHH mi_L_entry) = some (some (4, 15)) := by rfl
  show xh sc n_L_entry [aD 0, aI x, aI y, aD 71, aU] none h1 2 (hnd mi_L_entry 5 2 (mHH mi_L_entry)) = _
  rw [e1]
  show Run sc n_L_entry 15 [aD 0, aI x, aI y, aD 71, aU] none [] h1 = _
  rw [e_L_entry_15]
theorem L_entry_x2 (bo : BO h km ks kp sv) (hq : Call sc n_X9_entry [aD 0, aI x, aI y] h = some (.inr 1, h1)) : Call sc n_L_entry [aD 0, aI x, aI y, aD 71] h = some (.inl (some (aI (nI 2))), h1) := by
  have ok0 := bo.ok (sc := sc)
  simp only [c0_L_entry, e_L_entry_0, ok0, hq]
  have e1 : hnd mi_L_entry 5 1 (mHH mi_L_entry) = some (some (4, 19)) := by rfl
  show xh sc n_L_entry [aD 0, aI x, aI y, aD 71, aU] none h1 1 (hnd mi_L_entry 5 1 (mHH mi_L_entry)) = _
  rw [e1]
  show Run sc n_L_entry 19 [aD 0, aI x, aI y, aD 71, aU] none [] h1 = _
  rw [e_L_entry_19]
theorem L_count_k (bo : BO h km ks kp sv) (ho : OUT h1) (hq : Call sc n_X9_count [aD 0, aI x] h = some (.inl (some (aI a)), h1)) : ∃ h2, Call sc n_L_count [aD 0, aI x, aD 71] h = some (.inl (some (aI (nI 0))), h2) ∧ ldL h2 71 (nI 0) = some a.toInt64 ∧ OUT h2 ∧ LK (fun p => p = 71) 0 h1 h2 := by
  obtain ⟨h2, e1, e2, e3, e4⟩ := out_L ho a.toInt64
  refine ⟨h2, ?_, e2, e3, e4⟩
  have ok0 := bo.ok (sc := sc)
  simp only [c0_L_count, e_L_count_0, e_L_count_7, e_L_count_9, ok0, hq, bO_some, bF_I, bF_D, bF_C, bC_v, pk_mul, nI_add, Option.toList, List.cons_append, List.nil_append, e1]
theorem L_count_x1 (bo : BO h km ks kp sv) (hq : Call sc n_X9_count [aD 0, aI x] h = some (.inr 1, h1)) : Call sc n_L_count [aD 0, aI x, aD 71] h = some (.inl (some (aI (nI 1))), h1) := by
  have ok0 := bo.ok (sc := sc)
  simp only [c0_L_count, e_L_count_0, ok0, hq]
  have e1 : hnd mi_L_count 4 1 (mHH mi_L_count) = some (some (3, 13)) := by rfl
  show xh sc n_L_count [aD 0, aI x, aD 71, aU] none h1 1 (hnd mi_L_count 4 1 (mHH mi_L_count)) = _
  rw [e1]
  show Run sc n_L_count 13 [aD 0, aI x, aD 71, aU] none [] h1 = _
  rw [e_L_count_13]
theorem L_live_k (bo : BO h km ks kp sv) (ho : OUT h1) (hq : Call sc n_X9_live [aD 0, aI x] h = some (.inl (some (aI a)), h1)) : ∃ h2, Call sc n_L_live [aD 0, aI x, aD 71] h = some (.inl (some (aI (nI 0))), h2) ∧ ldL h2 71 (nI 0) = some a.toInt64 ∧ OUT h2 ∧ LK (fun p => p = 71) 0 h1 h2 := by
  obtain ⟨h2, e1, e2, e3, e4⟩ := out_L ho a.toInt64
  refine ⟨h2, ?_, e2, e3, e4⟩
  have ok0 := bo.ok (sc := sc)
  simp only [c0_L_live, e_L_live_0, e_L_live_7, e_L_live_9, ok0, hq, bO_some, bF_I, bF_D, bF_C, bC_v, pk_mul, nI_add, Option.toList, List.cons_append, List.nil_append, e1]
theorem L_live_x1 (bo : BO h km ks kp sv) (hq : Call sc n_X9_live [aD 0, aI x] h = some (.inr 2, h1)) : Call sc n_L_live [aD 0, aI x, aD 71] h = some (.inl (some (aI (nI 1))), h1) := by
  have ok0 := bo.ok (sc := sc)
  simp only [c0_L_live, e_L_live_0, ok0, hq]
  have e1 : hnd mi_L_live 4 2 (mHH mi_L_live) = some (some (3, 13)) := by rfl
  show xh sc n_L_live [aD 0, aI x, aD 71, aU] none h1 2 (hnd mi_L_live 4 2 (mHH mi_L_live)) = _
  rw [e1]
  show Run sc n_L_live 13 [aD 0, aI x, aD 71, aU] none [] h1 = _
  rw [e_L_live_13]
theorem L_live_x2 (bo : BO h km ks kp sv) (hq : Call sc n_X9_live [aD 0, aI x] h = some (.inr 0, h1)) : Call sc n_L_live [aD 0, aI x, aD 71] h = some (.inl (some (aI (nI 2))), h1) := by
  have ok0 := bo.ok (sc := sc)
  simp only [c0_L_live, e_L_live_0, ok0, hq]
  have e1 : hnd mi_L_live 4 0 (mHH mi_L_live) = some (some (3, 16)) := by rfl
  show xh sc n_L_live [aD 0, aI x, aD 71, aU] none h1 0 (hnd mi_L_live 4 0 (mHH mi_L_live)) = _
  rw [e1]
  show Run sc n_L_live 16 [aD 0, aI x, aD 71, aU] none [] h1 = _
  rw [e_L_live_16]
theorem L_isIndependent_x1 (bo : BO h km ks kp sv) (hq : Call sc n_X9_isIndependent [aD 0, aI x, aI y] h = some (.inr 2, h1)) : Call sc n_L_isIndependent [aD 0, aI x, aI y, aD 71] h = some (.inl (some (aI (nI 1))), h1) := by
  have ok0 := bo.ok (sc := sc)
  simp only [c0_L_isIndependent, e_L_isIndependent_0, ok0, hq]
  have e1 : hnd mi_L_isIndependent 5 2 (mHH mi_L_isIndependent) = some (some (4, 22)) := by rfl
  show xh sc n_L_isIndependent [aD 0, aI x, aI y, aD 71, aU] none h1 2 (hnd mi_L_isIndependent 5 2 (mHH mi_L_isIndependent)) = _
  rw [e1]
  show Run sc n_L_isIndependent 22 [aD 0, aI x, aI y, aD 71, aU] none [] h1 = _
  rw [e_L_isIndependent_22]
theorem L_candidate_k (bo : BO h km ks kp sv) (ho : OUT h1) (hq : Call sc n_X9_candidate [aD 0, aI x, aI y] h = some (.inl (some (aI a)), h1)) : ∃ h2, Call sc n_L_candidate [aD 0, aI x, aI y, aD 71] h = some (.inl (some (aI (nI 0))), h2) ∧ ldL h2 71 (nI 0) = some a.toInt64 ∧ OUT h2 ∧ LK (fun p => p = 71) 0 h1 h2 := by
  obtain ⟨h2, e1, e2, e3, e4⟩ := out_L ho a.toInt64
  refine ⟨h2, ?_, e2, e3, e4⟩
  have ok0 := bo.ok (sc := sc)
  simp only [c0_L_candidate, e_L_candidate_0, e_L_candidate_8, e_L_candidate_10, ok0, hq, bO_some, bF_I, bF_D, bF_C, bC_v, pk_mul, nI_add, Option.toList, List.cons_append, List.nil_append, e1]
theorem L_candidate_x1 (bo : BO h km ks kp sv) (hq : Call sc n_X9_candidate [aD 0, aI x, aI y] h = some (.inr 2, h1)) : Call sc n_L_candidate [aD 0, aI x, aI y, aD 71] h = some (.inl (some (aI (nI 1))), h1) := by
  have ok0 := bo.ok (sc := sc)
  simp only [c0_L_candidate, e_L_candidate_0, ok0, hq]
  have e1 : hnd mi_L_candidate 5 2 (mHH mi_L_candidate) = some (some (4, 15)) := by rfl
  show xh sc n_L_candidate [aD 0, aI x, aI y, aD 71, aU] none h1 2 (hnd mi_L_candidate 5 2 (mHH mi_L_candidate)) = _
  rw [e1]
  show Run sc n_L_candidate 15 [aD 0, aI x, aI y, aD 71, aU] none [] h1 = _
  rw [e_L_candidate_15]
theorem L_candidate_x2 (bo : BO h km ks kp sv) (hq : Call sc n_X9_candidate [aD 0, aI x, aI y] h = some (.inr 1, h1)) : Call sc n_L_candidate [aD 0, aI x, aI y, aD 71] h = some (.inl (some (aI (nI 2))), h1) := by
  have ok0 := bo.ok (sc := sc)
  simp only [c0_L_candidate, e_L_candidate_0, ok0, hq]
  have e1 : hnd mi_L_candidate 5 1 (mHH mi_L_candidate) = some (some (4, 19)) := by rfl
  show xh sc n_L_candidate [aD 0, aI x, aI y, aD 71, aU] none h1 1 (hnd mi_L_candidate 5 1 (mHH mi_L_candidate)) = _
  rw [e1]
  show Run sc n_L_candidate 19 [aD 0, aI x, aI y, aD 71, aU] none [] h1 = _
  rw [e_L_candidate_19]
theorem L_candidate_x3 (bo : BO h km ks kp sv) (hq : Call sc n_X9_candidate [aD 0, aI x, aI y] h = some (.inr 0, h1)) : Call sc n_L_candidate [aD 0, aI x, aI y, aD 71] h = some (.inl (some (aI (nI 3))), h1) := by
  have ok0 := bo.ok (sc := sc)
  simp only [c0_L_candidate, e_L_candidate_0, ok0, hq]
  have e1 : hnd mi_L_candidate 5 0 (mHH mi_L_candidate) = some (some (4, 23)) := by rfl
  show xh sc n_L_candidate [aD 0, aI x, aI y, aD 71, aU] none h1 0 (hnd mi_L_candidate 5 0 (mHH mi_L_candidate)) = _
  rw [e1]
  show Run sc n_L_candidate 23 [aD 0, aI x, aI y, aD 71, aU] none [] h1 = _
  rw [e_L_candidate_23]
theorem L_candidate_x4 (bo : BO h km ks kp sv) (hq : Call sc n_X9_candidate [aD 0, aI x, aI y] h = some (.inr 5, h1)) : Call sc n_L_candidate [aD 0, aI x, aI y, aD 71] h = some (.inl (some (aI (nI 4))), h1) := by
  have ok0 := bo.ok (sc := sc)
  simp only [c0_L_candidate, e_L_candidate_0, ok0, hq]
  have e1 : hnd mi_L_candidate 5 5 (mHH mi_L_candidate) = some (some (4, 27)) := by rfl
  show xh sc n_L_candidate [aD 0, aI x, aI y, aD 71, aU] none h1 5 (hnd mi_L_candidate 5 5 (mHH mi_L_candidate)) = _
  rw [e1]
  show Run sc n_L_candidate 27 [aD 0, aI x, aI y, aD 71, aU] none [] h1 = _
  rw [e_L_candidate_27]
theorem L_fill_k (bo : BO h km ks kp sv) (ho : OUT h1) (hq : Call sc n_X9_fill [aD 0, aI x, aI y] h = some (.inl (some (aI a)), h1)) : ∃ h2, Call sc n_L_fill [aD 0, aI x, aI y, aD 71] h = some (.inl (some (aI (nI 0))), h2) ∧ ldL h2 71 (nI 0) = some a.toInt64 ∧ OUT h2 ∧ LK (fun p => p = 71) 0 h1 h2 := by
  obtain ⟨h2, e1, e2, e3, e4⟩ := out_L ho a.toInt64
  refine ⟨h2, ?_, e2, e3, e4⟩
  have ok0 := bo.ok (sc := sc)
  simp only [c0_L_fill, e_L_fill_0, e_L_fill_8, e_L_fill_10, ok0, hq, bO_some, bF_I, bF_D, bF_C, bC_v, pk_mul, nI_add, Option.toList, List.cons_append, List.nil_append, e1]
theorem L_fill_x1 (bo : BO h km ks kp sv) (hq : Call sc n_X9_fill [aD 0, aI x, aI y] h = some (.inr 2, h1)) : Call sc n_L_fill [aD 0, aI x, aI y, aD 71] h = some (.inl (some (aI (nI 1))), h1) := by
  have ok0 := bo.ok (sc := sc)
  simp only [c0_L_fill, e_L_fill_0, ok0, hq]
  have e1 : hnd mi_L_fill 5 2 (mHH mi_L_fill) = some (some (4, 15)) := by rfl
  show xh sc n_L_fill [aD 0, aI x, aI y, aD 71, aU] none h1 2 (hnd mi_L_fill 5 2 (mHH mi_L_fill)) = _
  rw [e1]
  show Run sc n_L_fill 15 [aD 0, aI x, aI y, aD 71, aU] none [] h1 = _
  rw [e_L_fill_15]
theorem L_fill_x2 (bo : BO h km ks kp sv) (hq : Call sc n_X9_fill [aD 0, aI x, aI y] h = some (.inr 1, h1)) : Call sc n_L_fill [aD 0, aI x, aI y, aD 71] h = some (.inl (some (aI (nI 2))), h1) := by
  have ok0 := bo.ok (sc := sc)
  simp only [c0_L_fill, e_L_fill_0, ok0, hq]
  have e1 : hnd mi_L_fill 5 1 (mHH mi_L_fill) = some (some (4, 19)) := by rfl
  show xh sc n_L_fill [aD 0, aI x, aI y, aD 71, aU] none h1 1 (hnd mi_L_fill 5 1 (mHH mi_L_fill)) = _
  rw [e1]
  show Run sc n_L_fill 19 [aD 0, aI x, aI y, aD 71, aU] none [] h1 = _
  rw [e_L_fill_19]
theorem L_fill_x3 (bo : BO h km ks kp sv) (hq : Call sc n_X9_fill [aD 0, aI x, aI y] h = some (.inr 0, h1)) : Call sc n_L_fill [aD 0, aI x, aI y, aD 71] h = some (.inl (some (aI (nI 3))), h1) := by
  have ok0 := bo.ok (sc := sc)
  simp only [c0_L_fill, e_L_fill_0, ok0, hq]
  have e1 : hnd mi_L_fill 5 0 (mHH mi_L_fill) = some (some (4, 23)) := by rfl
  show xh sc n_L_fill [aD 0, aI x, aI y, aD 71, aU] none h1 0 (hnd mi_L_fill 5 0 (mHH mi_L_fill)) = _
  rw [e1]
  show Run sc n_L_fill 23 [aD 0, aI x, aI y, aD 71, aU] none [] h1 = _
  rw [e_L_fill_23]
theorem L_fill_x4 (bo : BO h km ks kp sv) (hq : Call sc n_X9_fill [aD 0, aI x, aI y] h = some (.inr 5, h1)) : Call sc n_L_fill [aD 0, aI x, aI y, aD 71] h = some (.inl (some (aI (nI 4))), h1) := by
  have ok0 := bo.ok (sc := sc)
  simp only [c0_L_fill, e_L_fill_0, ok0, hq]
  have e1 : hnd mi_L_fill 5 5 (mHH mi_L_fill) = some (some (4, 27)) := by rfl
  show xh sc n_L_fill [aD 0, aI x, aI y, aD 71, aU] none h1 5 (hnd mi_L_fill 5 5 (mHH mi_L_fill)) = _
  rw [e1]
  show Run sc n_L_fill 27 [aD 0, aI x, aI y, aD 71, aU] none [] h1 = _
  rw [e_L_fill_27]
theorem L_fillAll_k (bo : BO h km ks kp sv) (ho : OUT h1) (hq : Call sc n_X9_fillAll [aD 0, aI x, aI y] h = some (.inl (some (aI a)), h1)) : ∃ h2, Call sc n_L_fillAll [aD 0, aI x, aI y, aD 71] h = some (.inl (some (aI (nI 0))), h2) ∧ ldL h2 71 (nI 0) = some a.toInt64 ∧ OUT h2 ∧ LK (fun p => p = 71) 0 h1 h2 := by
  obtain ⟨h2, e1, e2, e3, e4⟩ := out_L ho a.toInt64
  refine ⟨h2, ?_, e2, e3, e4⟩
  have ok0 := bo.ok (sc := sc)
  simp only [c0_L_fillAll, e_L_fillAll_0, e_L_fillAll_8, e_L_fillAll_10, ok0, hq, bO_some, bF_I, bF_D, bF_C, bC_v, pk_mul, nI_add, Option.toList, List.cons_append, List.nil_append, e1]
theorem L_fillAll_x1 (bo : BO h km ks kp sv) (hq : Call sc n_X9_fillAll [aD 0, aI x, aI y] h = some (.inr 1, h1)) : Call sc n_L_fillAll [aD 0, aI x, aI y, aD 71] h = some (.inl (some (aI (nI 1))), h1) := by
  have ok0 := bo.ok (sc := sc)
  simp only [c0_L_fillAll, e_L_fillAll_0, ok0, hq]
  have e1 : hnd mi_L_fillAll 5 1 (mHH mi_L_fillAll) = some (some (4, 15)) := by rfl
  show xh sc n_L_fillAll [aD 0, aI x, aI y, aD 71, aU] none h1 1 (hnd mi_L_fillAll 5 1 (mHH mi_L_fillAll)) = _
  rw [e1]
  show Run sc n_L_fillAll 15 [aD 0, aI x, aI y, aD 71, aU] none [] h1 = _
  rw [e_L_fillAll_15]
theorem L_undo_k (bo : BO h km ks kp sv) (ho : OUT h1) (hq : Call sc n_X9_undo [aD 0] h = some (.inl (some (aI a)), h1)) : ∃ h2, Call sc n_L_undo [aD 0, aD 71] h = some (.inl (some (aI (nI 0))), h2) ∧ ldL h2 71 (nI 0) = some a.toInt64 ∧ OUT h2 ∧ LK (fun p => p = 71) 0 h1 h2 := by
  obtain ⟨h2, e1, e2, e3, e4⟩ := out_L ho a.toInt64
  refine ⟨h2, ?_, e2, e3, e4⟩
  have ok0 := bo.ok (sc := sc)
  simp only [c0_L_undo, e_L_undo_0, e_L_undo_6, e_L_undo_8, ok0, hq, bO_some, bF_I, bF_D, bF_C, bC_v, pk_mul, nI_add, Option.toList, List.cons_append, List.nil_append, e1]
theorem L_undo_x1 (bo : BO h km ks kp sv) (hq : Call sc n_X9_undo [aD 0] h = some (.inr 0, h1)) : Call sc n_L_undo [aD 0, aD 71] h = some (.inl (some (aI (nI 1))), h1) := by
  have ok0 := bo.ok (sc := sc)
  simp only [c0_L_undo, e_L_undo_0, ok0, hq]
  have e1 : hnd mi_L_undo 3 0 (mHH mi_L_undo) = some (some (2, 12)) := by rfl
  show xh sc n_L_undo [aD 0, aD 71, aU] none h1 0 (hnd mi_L_undo 3 0 (mHH mi_L_undo)) = _
  rw [e1]
  show Run sc n_L_undo 12 [aD 0, aD 71, aU] none [] h1 = _
  rw [e_L_undo_12]
theorem L_text_k (bo : BO h km ks kp sv) (ho : OUT h1) (hq : Call sc n_X9_text [aD 0, aI x] h = some (.inl (some (aI a)), h1)) : ∃ h2, Call sc n_L_text [aD 0, aI x, aD 71] h = some (.inl (some (aI (nI 0))), h2) ∧ ldL h2 71 (nI 0) = some a.toInt64 ∧ OUT h2 ∧ LK (fun p => p = 71) 0 h1 h2 := by
  obtain ⟨h2, e1, e2, e3, e4⟩ := out_L ho a.toInt64
  refine ⟨h2, ?_, e2, e3, e4⟩
  have ok0 := bo.ok (sc := sc)
  simp only [c0_L_text, e_L_text_0, e_L_text_7, e_L_text_9, ok0, hq, bO_some, bF_I, bF_D, bF_C, bC_v, pk_mul, nI_add, Option.toList, List.cons_append, List.nil_append, e1]
theorem L_text_x1 (bo : BO h km ks kp sv) (hq : Call sc n_X9_text [aD 0, aI x] h = some (.inr 2, h1)) : Call sc n_L_text [aD 0, aI x, aD 71] h = some (.inl (some (aI (nI 1))), h1) := by
  have ok0 := bo.ok (sc := sc)
  simp only [c0_L_text, e_L_text_0, ok0, hq]
  have e1 : hnd mi_L_text 4 2 (mHH mi_L_text) = some (some (3, 13)) := by rfl
  show xh sc n_L_text [aD 0, aI x, aD 71, aU] none h1 2 (hnd mi_L_text 4 2 (mHH mi_L_text)) = _
  rw [e1]
  show Run sc n_L_text 13 [aD 0, aI x, aD 71, aU] none [] h1 = _
  rw [e_L_text_13]
theorem L_setInitial_k (bo : BO h km ks kp sv) (ho : OUT h1) (hq : Call sc n_X9_setInitial [aD 0, aI x, aI y, aI z] h = some (.inl (some (aI a)), h1)) : ∃ h2, Call sc n_L_setInitial [aD 0, aI x, aI y, aI z, aD 71] h = some (.inl (some (aI (nI 0))), h2) ∧ ldL h2 71 (nI 0) = some a.toInt64 ∧ OUT h2 ∧ LK (fun p => p = 71) 0 h1 h2 := by
  obtain ⟨h2, e1, e2, e3, e4⟩ := out_L ho a.toInt64
  refine ⟨h2, ?_, e2, e3, e4⟩
  have ok0 := bo.ok (sc := sc)
  simp only [c0_L_setInitial, e_L_setInitial_0, e_L_setInitial_10, e_L_setInitial_12, ok0, hq, bO_some, bF_I, bF_D, bF_C, bC_v, pk_mul, nI_add, Option.toList, List.cons_append, List.nil_append, e1]
theorem L_setInitial_x1 (bo : BO h km ks kp sv) (hq : Call sc n_X9_setInitial [aD 0, aI x, aI y, aI z] h = some (.inr 2, h1)) : Call sc n_L_setInitial [aD 0, aI x, aI y, aI z, aD 71] h = some (.inl (some (aI (nI 1))), h1) := by
  have ok0 := bo.ok (sc := sc)
  simp only [c0_L_setInitial, e_L_setInitial_0, ok0, hq]
  have e1 : hnd mi_L_setInitial 7 2 (mHH mi_L_setInitial) = some (some (5, 17)) := by rfl
  show xh sc n_L_setInitial [aD 0, aI x, aI y, aI z, aD 71, aU] none h1 2 (hnd mi_L_setInitial 7 2 (mHH mi_L_setInitial)) = _
  rw [e1]
  show Run sc n_L_setInitial 17 [aD 0, aI x, aI y, aI z, aD 71, aU] none [] h1 = _
  rw [e_L_setInitial_17]
theorem L_run_k (bo : BO h km ks kp sv) (ho : OUT h1) (hq : Call sc n_X9_run [aD 0, aI x, aI y] h = some (.inl (some (aI a)), h1)) : ∃ h2, Call sc n_L_run [aD 0, aI x, aI y, aD 71] h = some (.inl (some (aI (nI 0))), h2) ∧ ldL h2 71 (nI 0) = some a.toInt64 ∧ OUT h2 ∧ LK (fun p => p = 71) 0 h1 h2 := by
  obtain ⟨h2, e1, e2, e3, e4⟩ := out_L ho a.toInt64
  refine ⟨h2, ?_, e2, e3, e4⟩
  have ok0 := bo.ok (sc := sc)
  simp only [c0_L_run, e_L_run_0, e_L_run_8, e_L_run_10, ok0, hq, bO_some, bF_I, bF_D, bF_C, bC_v, pk_mul, nI_add, Option.toList, List.cons_append, List.nil_append, e1]
theorem L_run_x1 (bo : BO h km ks kp sv) (hq : Call sc n_X9_run [aD 0, aI x, aI y] h = some (.inr 1, h1)) : Call sc n_L_run [aD 0, aI x, aI y, aD 71] h = some (.inl (some (aI (nI 1))), h1) := by
  have ok0 := bo.ok (sc := sc)
  simp only [c0_L_run, e_L_run_0, ok0, hq]
  have e1 : hnd mi_L_run 5 1 (mHH mi_L_run) = some (some (4, 15)) := by rfl
  show xh sc n_L_run [aD 0, aI x, aI y, aD 71, aU] none h1 1 (hnd mi_L_run 5 1 (mHH mi_L_run)) = _
  rw [e1]
  show Run sc n_L_run 15 [aD 0, aI x, aI y, aD 71, aU] none [] h1 = _
  rw [e_L_run_15]
theorem L_run_x2 (bo : BO h km ks kp sv) (hq : Call sc n_X9_run [aD 0, aI x, aI y] h = some (.inr 4, h1)) : Call sc n_L_run [aD 0, aI x, aI y, aD 71] h = some (.inl (some (aI (nI 2))), h1) := by
  have ok0 := bo.ok (sc := sc)
  simp only [c0_L_run, e_L_run_0, ok0, hq]
  have e1 : hnd mi_L_run 5 4 (mHH mi_L_run) = some (some (4, 19)) := by rfl
  show xh sc n_L_run [aD 0, aI x, aI y, aD 71, aU] none h1 4 (hnd mi_L_run 5 4 (mHH mi_L_run)) = _
  rw [e1]
  show Run sc n_L_run 19 [aD 0, aI x, aI y, aD 71, aU] none [] h1 = _
  rw [e_L_run_19]
theorem L_finalValue_k (bo : BO h km ks kp sv) (ho : OUT h1) (hq : Call sc n_X9_finalValue [aD 0, aI x, aI y] h = some (.inl (some (aI a)), h1)) : ∃ h2, Call sc n_L_finalValue [aD 0, aI x, aI y, aD 71] h = some (.inl (some (aI (nI 0))), h2) ∧ ldL h2 71 (nI 0) = some a.toInt64 ∧ OUT h2 ∧ LK (fun p => p = 71) 0 h1 h2 := by
  obtain ⟨h2, e1, e2, e3, e4⟩ := out_L ho a.toInt64
  refine ⟨h2, ?_, e2, e3, e4⟩
  have ok0 := bo.ok (sc := sc)
  simp only [c0_L_finalValue, e_L_finalValue_0, e_L_finalValue_8, e_L_finalValue_10, ok0, hq, bO_some, bF_I, bF_D, bF_C, bC_v, pk_mul, nI_add, Option.toList, List.cons_append, List.nil_append, e1]
theorem L_finalValue_x1 (bo : BO h km ks kp sv) (hq : Call sc n_X9_finalValue [aD 0, aI x, aI y] h = some (.inr 0, h1)) : Call sc n_L_finalValue [aD 0, aI x, aI y, aD 71] h = some (.inl (some (aI (nI 1))), h1) := by
  have ok0 := bo.ok (sc := sc)
  simp only [c0_L_finalValue, e_L_finalValue_0, ok0, hq]
  have e1 : hnd mi_L_finalValue 5 0 (mHH mi_L_finalValue) = some (some (4, 15)) := by rfl
  show xh sc n_L_finalValue [aD 0, aI x, aI y, aD 71, aU] none h1 0 (hnd mi_L_finalValue 5 0 (mHH mi_L_finalValue)) = _
  rw [e1]
  show Run sc n_L_finalValue 15 [aD 0, aI x, aI y, aD 71, aU] none [] h1 = _
  rw [e_L_finalValue_15]
theorem L_finalValue_x2 (bo : BO h km ks kp sv) (hq : Call sc n_X9_finalValue [aD 0, aI x, aI y] h = some (.inr 2, h1)) : Call sc n_L_finalValue [aD 0, aI x, aI y, aD 71] h = some (.inl (some (aI (nI 2))), h1) := by
  have ok0 := bo.ok (sc := sc)
  simp only [c0_L_finalValue, e_L_finalValue_0, ok0, hq]
  have e1 : hnd mi_L_finalValue 5 2 (mHH mi_L_finalValue) = some (some (4, 19)) := by rfl
  show xh sc n_L_finalValue [aD 0, aI x, aI y, aD 71, aU] none h1 2 (hnd mi_L_finalValue 5 2 (mHH mi_L_finalValue)) = _
  rw [e1]
  show Run sc n_L_finalValue 19 [aD 0, aI x, aI y, aD 71, aU] none [] h1 = _
  rw [e_L_finalValue_19]
theorem L_outputs_k (bo : BO h km ks kp sv) (ho : OUT h1) (hq : Call sc n_X9_outputs [aD 0] h = some (.inl (some (aI a)), h1)) : ∃ h2, Call sc n_L_outputs [aD 0, aD 71] h = some (.inl (some (aI (nI 0))), h2) ∧ ldL h2 71 (nI 0) = some a.toInt64 ∧ OUT h2 ∧ LK (fun p => p = 71) 0 h1 h2 := by
  obtain ⟨h2, e1, e2, e3, e4⟩ := out_L ho a.toInt64
  refine ⟨h2, ?_, e2, e3, e4⟩
  have ok0 := bo.ok (sc := sc)
  simp only [c0_L_outputs, e_L_outputs_0, e_L_outputs_6, e_L_outputs_8, ok0, hq, bO_some, bF_I, bF_D, bF_C, bC_v, pk_mul, nI_add, Option.toList, List.cons_append, List.nil_append, e1]
theorem L_outputs_x1 (bo : BO h km ks kp sv) (hq : Call sc n_X9_outputs [aD 0] h = some (.inr 0, h1)) : Call sc n_L_outputs [aD 0, aD 71] h = some (.inl (some (aI (nI 1))), h1) := by
  have ok0 := bo.ok (sc := sc)
  simp only [c0_L_outputs, e_L_outputs_0, ok0, hq]
  have e1 : hnd mi_L_outputs 3 0 (mHH mi_L_outputs) = some (some (2, 12)) := by rfl
  show xh sc n_L_outputs [aD 0, aD 71, aU] none h1 0 (hnd mi_L_outputs 3 0 (mHH mi_L_outputs)) = _
  rw [e1]
  show Run sc n_L_outputs 12 [aD 0, aD 71, aU] none [] h1 = _
  rw [e_L_outputs_12]
theorem L_output_k (bo : BO h km ks kp sv) (ho : OUT h1) (hq : Call sc n_X9_output [aD 0, aI x] h = some (.inl (some (aI a)), h1)) : ∃ h2, Call sc n_L_output [aD 0, aI x, aD 71] h = some (.inl (some (aI (nI 0))), h2) ∧ ldL h2 71 (nI 0) = some a.toInt64 ∧ OUT h2 ∧ LK (fun p => p = 71) 0 h1 h2 := by
  obtain ⟨h2, e1, e2, e3, e4⟩ := out_L ho a.toInt64
  refine ⟨h2, ?_, e2, e3, e4⟩
  have ok0 := bo.ok (sc := sc)
  simp only [c0_L_output, e_L_output_0, e_L_output_7, e_L_output_9, ok0, hq, bO_some, bF_I, bF_D, bF_C, bC_v, pk_mul, nI_add, Option.toList, List.cons_append, List.nil_append, e1]
theorem L_output_x1 (bo : BO h km ks kp sv) (hq : Call sc n_X9_output [aD 0, aI x] h = some (.inr 0, h1)) : Call sc n_L_output [aD 0, aI x, aD 71] h = some (.inl (some (aI (nI 1))), h1) := by
  have ok0 := bo.ok (sc := sc)
  simp only [c0_L_output, e_L_output_0, ok0, hq]
  have e1 : hnd mi_L_output 4 0 (mHH mi_L_output) = some (some (3, 13)) := by rfl
  show xh sc n_L_output [aD 0, aI x, aD 71, aU] none h1 0 (hnd mi_L_output 4 0 (mHH mi_L_output)) = _
  rw [e1]
  show Run sc n_L_output 13 [aD 0, aI x, aD 71, aU] none [] h1 = _
  rw [e_L_output_13]
theorem L_output_x2 (bo : BO h km ks kp sv) (hq : Call sc n_X9_output [aD 0, aI x] h = some (.inr 2, h1)) : Call sc n_L_output [aD 0, aI x, aD 71] h = some (.inl (some (aI (nI 2))), h1) := by
  have ok0 := bo.ok (sc := sc)
  simp only [c0_L_output, e_L_output_0, ok0, hq]
  have e1 : hnd mi_L_output 4 2 (mHH mi_L_output) = some (some (3, 16)) := by rfl
  show xh sc n_L_output [aD 0, aI x, aD 71, aU] none h1 2 (hnd mi_L_output 4 2 (mHH mi_L_output)) = _
  rw [e1]
  show Run sc n_L_output 16 [aD 0, aI x, aD 71, aU] none [] h1 = _
  rw [e_L_output_16]
theorem L_differences_k (bo : BO h km ks kp sv) (ho : OUT h1) (hq : Call sc n_X9_differences [aD 0, aI x, aI y] h = some (.inl (some (aI a)), h1)) : ∃ h2, Call sc n_L_differences [aD 0, aI x, aI y, aD 71] h = some (.inl (some (aI (nI 0))), h2) ∧ ldL h2 71 (nI 0) = some a.toInt64 ∧ OUT h2 ∧ LK (fun p => p = 71) 0 h1 h2 := by
  obtain ⟨h2, e1, e2, e3, e4⟩ := out_L ho a.toInt64
  refine ⟨h2, ?_, e2, e3, e4⟩
  have ok0 := bo.ok (sc := sc)
  simp only [c0_L_differences, e_L_differences_0, e_L_differences_8, e_L_differences_10, ok0, hq, bO_some, bF_I, bF_D, bF_C, bC_v, pk_mul, nI_add, Option.toList, List.cons_append, List.nil_append, e1]
theorem L_differences_x1 (bo : BO h km ks kp sv) (hq : Call sc n_X9_differences [aD 0, aI x, aI y] h = some (.inr 1, h1)) : Call sc n_L_differences [aD 0, aI x, aI y, aD 71] h = some (.inl (some (aI (nI 1))), h1) := by
  have ok0 := bo.ok (sc := sc)
  simp only [c0_L_differences, e_L_differences_0, ok0, hq]
  have e1 : hnd mi_L_differences 5 1 (mHH mi_L_differences) = some (some (4, 15)) := by rfl
  show xh sc n_L_differences [aD 0, aI x, aI y, aD 71, aU] none h1 1 (hnd mi_L_differences 5 1 (mHH mi_L_differences)) = _
  rw [e1]
  show Run sc n_L_differences 15 [aD 0, aI x, aI y, aD 71, aU] none [] h1 = _
  rw [e_L_differences_15]
theorem L_meanSteps_x1 (bo : BO h km ks kp sv) (hq : Call sc n_X9_meanSteps [aD 0, aI x, aI y] h = some (.inr 1, h1)) : Call sc n_L_meanSteps [aD 0, aI x, aI y, aD 72] h = some (.inl (some (aI (nI 1))), h1) := by
  have ok0 := bo.ok (sc := sc)
  simp only [c0_L_meanSteps, e_L_meanSteps_0, ok0, hq]
  have e1 : hnd mi_L_meanSteps 5 1 (mHH mi_L_meanSteps) = some (some (4, 14)) := by rfl
  show xh sc n_L_meanSteps [aD 0, aI x, aI y, aD 72, aU] none h1 1 (hnd mi_L_meanSteps 5 1 (mHH mi_L_meanSteps)) = _
  rw [e1]
  show Run sc n_L_meanSteps 14 [aD 0, aI x, aI y, aD 72, aU] none [] h1 = _
  rw [e_L_meanSteps_14]
theorem L_filledShare_x1 (bo : BO h km ks kp sv) (hq : Call sc n_X9_filledShare [aD 0] h = some (.inr 3, h1)) : Call sc n_L_filledShare [aD 0, aD 72] h = some (.inl (some (aI (nI 1))), h1) := by
  have ok0 := bo.ok (sc := sc)
  simp only [c0_L_filledShare, e_L_filledShare_0, ok0, hq]
  have e1 : hnd mi_L_filledShare 3 3 (mHH mi_L_filledShare) = some (some (2, 12)) := by rfl
  show xh sc n_L_filledShare [aD 0, aD 72, aU] none h1 3 (hnd mi_L_filledShare 3 3 (mHH mi_L_filledShare)) = _
  rw [e1]
  show Run sc n_L_filledShare 12 [aD 0, aD 72, aU] none [] h1 = _
  rw [e_L_filledShare_12]
theorem L_restore_k (bo : BO h km ks kp sv) (ho : OUT h1) (hq : Call sc n_X9_restore [aD 0] h = some (.inl (some (aI a)), h1)) : ∃ h2, Call sc n_L_restore [aD 0, aD 71] h = some (.inl (some (aI (nI 0))), h2) ∧ ldL h2 71 (nI 0) = some a.toInt64 ∧ OUT h2 ∧ LK (fun p => p = 71) 0 h1 h2 := by
  obtain ⟨h2, e1, e2, e3, e4⟩ := out_L ho a.toInt64
  refine ⟨h2, ?_, e2, e3, e4⟩
  have ok0 := bo.ok (sc := sc)
  simp only [c0_L_restore, e_L_restore_0, e_L_restore_6, e_L_restore_8, ok0, hq, bO_some, bF_I, bF_D, bF_C, bC_v, pk_mul, nI_add, Option.toList, List.cons_append, List.nil_append, e1]
theorem L_restore_x1 (bo : BO h km ks kp sv) (hq : Call sc n_X9_restore [aD 0] h = some (.inr 0, h1)) : Call sc n_L_restore [aD 0, aD 71] h = some (.inl (some (aI (nI 1))), h1) := by
  have ok0 := bo.ok (sc := sc)
  simp only [c0_L_restore, e_L_restore_0, ok0, hq]
  have e1 : hnd mi_L_restore 3 0 (mHH mi_L_restore) = some (some (2, 12)) := by rfl
  show xh sc n_L_restore [aD 0, aD 71, aU] none h1 0 (hnd mi_L_restore 3 0 (mHH mi_L_restore)) = _
  rw [e1]
  show Run sc n_L_restore 12 [aD 0, aD 71, aU] none [] h1 = _
  rw [e_L_restore_12]
end
