/-! PURE 2: the class's program, read -/
section
variable {sc : SC} {h : AH} {p N n : Nat} {f : Nat → Int32}
theorem c_X6_part (g : PG h p N n f) {i w : Nat} (hi : i < n) (hw : w < 5) : Call sc n_X6_part [aD p, aI (nI i), aI (nI w)] h = some (.inl (some (aI (xC n f i w))), h) := by
  simp only [c0_X6_part, e_X6_part_0, e_X6_part_4, e_X6_part_10, g.f0, bO_some, bF_I, bF_D, bF_C, bC_v, pk_mul, nI_add, Option.toList, List.cons_append, List.nil_append, g.ldx hi hw]
theorem c_X6_kind (g : PG h p N n f) (hv : VK n (xC n f)) {i : Nat} (hi : i < n) : Call sc n_X6_kind [aD p, aI (nI i)] h = some (.inl (some (aC (kx (xC n f) i + 1))), h) := by
  obtain ⟨h1, h2⟩ := hv i hi
  simp only [c0_X6_kind, e_X6_kind_0, e_X6_kind_7, e_X6_kind_13, e_X6_kind_14, g.f0, bO_some, bF_I, bF_D, bF_C, bC_v, pk_mul, nI_add, Option.toList, List.cons_append, List.nil_append, g.ldx hi (show 0 < 5 by omega)]
  rw [h1, kinds_at h2]
  simp only [bO_some, bF_I, bF_D, bF_C, bC_v, pk_mul, nI_add, Option.toList, List.cons_append, List.nil_append, c0_X6_kind, e_X6_kind_0, e_X6_kind_7, e_X6_kind_13, e_X6_kind_14]
theorem c_X6_isBranch (g : PG h p N n f) (hv : VK n (xC n f)) {i : Nat} (hi : i < n) : Call sc n_X6_isBranch [aD p, aI (nI i)] h = some (.inl (some (aI (zI (kBr (kx (xC n f) i))))), h) := by
  obtain ⟨h1, h2⟩ := hv i hi
  simp only [c0_X6_isBranch, e_X6_isBranch_0, e_X6_isBranch_7, e_X6_isBranch_13, e_X6_isBranch_14, e_X6_isBranch_17, g.f0, bO_some, bF_I, bF_D, bF_C, bC_v, pk_mul, nI_add, Option.toList, List.cons_append, List.nil_append, g.ldx hi (show 0 < 5 by omega)]
  rw [h1, kinds_at h2]
  simp only [bO_some, bF_I, bF_D, bF_C, bC_v, pk_mul, nI_add, Option.toList, List.cons_append, List.nil_append, c0_X6_isBranch, e_X6_isBranch_0, e_X6_isBranch_7, e_X6_isBranch_13, e_X6_isBranch_14, e_X6_isBranch_17, kf_br h2]
  exact bI_t (zI_ret _) _
theorem c_X6_target (g : PG h p N n f) {i : Nat} (hi : i < n) : Call sc n_X6_target [aD p, aI (nI i)] h = some (.inl (some (aI (xC n f i 3))), h) := by
  simp only [c0_X6_target, e_X6_target_0, e_X6_target_4, e_X6_target_10, g.f0, bO_some, bF_I, bF_D, bF_C, bC_v, pk_mul, nI_add, Option.toList, List.cons_append, List.nil_append, g.ldx hi (show 3 < 5 by omega)]
end
