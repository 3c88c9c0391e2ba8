/-! PURE 2: the class's program, read -/
def sh (x : Int32) : Int32 := nI 1 <<< (x &&& 31)
def rdX (X : Nat → Nat → Int32) (i : Nat) : Int32 := ((if kRA (kx X i) = true then sh (X i 1) else nI 0) ||| (if kRB (kx X i) = true then sh (X i 2) else nI 0)) ||| (if kRC (kx X i) = true then sh (X i 3) else nI 0)
def wrX (X : Nat → Nat → Int32) (i : Nat) : Int32 := if kWA (kx X i) = true then sh (X i 1) else nI 0
def memK (k : Nat) : Bool := Nat.ble 5 k && Nat.ble k 6
def cfK (k : Nat) : Bool := Nat.ble 1 k && Nat.ble k 7
def slX (X : Nat → Nat → Int32) (i : Nat) : Bool := decide (0 < i) && kBr (kx X (i - 1))
def esX (X : Nat → Nat → Int32) (i : Nat) : Bool := kBr (kx X i) && Nat.beq (kx X (i + 1)) 0
def indX (X : Nat → Nat → Int32) (i j : Nat) : Bool := decide ((wrX X i &&& (rdX X j ||| wrX X j)) = 0) && (decide ((wrX X j &&& rdX X i) = 0) && (!(memK (kx X i) && (memK (kx X j) && (decide (kx X i = 6) || decide (kx X j = 6)))) && !(decide (kx X i = 7) && decide (kx X j = 7))))
theorem bI_b {b : Bool} {r : Option AV ⊕ Nat} {h : AH} : bI (retK (some FieldType.boolean) (zI b) = true) (some (r, h)) = some (r, h) := bI_t (zI_ret b) _
theorem zI_t : nI 1 = zI true := rfl
theorem zI_f : nI 0 = zI false := rfl
theorem acOK {k m : Nat} (h : k < 12) (hm : 1 ≤ m ∧ m < 13) : 1 ≤ k + 1 ∧ k + 1 < 13 ∧ 1 ≤ m ∧ m < 13 := ⟨by omega, by omega, hm.1, hm.2⟩
section
variable {sc : SC} {h : AH} {p N n : Nat} {f : Nat → Int32}
theorem c_X4_isMemoryAccess {k : Nat} (hk : k < 12) : Call sc n_X4_isMemoryAccess [aC (k + 1)] h = some (.inl (some (aI (zI (memK k)))), h) := by
  rcases twelve hk with rfl | rfl | rfl | rfl | rfl | rfl | rfl | rfl | rfl | rfl | rfl | rfl <;> simp [c0_X4_isMemoryAccess, e_X4_isMemoryAccess_0, e_X4_isMemoryAccess_7, e_X4_isMemoryAccess_14, e_X4_isMemoryAccess_18, e_X4_isMemoryAccess_19, bI, memK, zI, retK, nI] <;> rfl
theorem c_X4_canFill {k : Nat} (hk : k < 12) : Call sc n_X4_canFill [aC (k + 1)] h = some (.inl (some (aI (zI (cfK k)))), h) := by
  simp only [c0_X4_canFill, e_X4_canFill_0, e_X4_canFill_7, e_X4_canFill_14, e_X4_canFill_18, e_X4_canFill_21, e_X4_canFill_25, e_X4_canFill_26, kf_br hk, bF_I]
  rcases twelve hk with rfl | rfl | rfl | rfl | rfl | rfl | rfl | rfl | rfl | rfl | rfl | rfl <;> simp [c0_X4_canFill, e_X4_canFill_0, e_X4_canFill_7, e_X4_canFill_14, e_X4_canFill_18, e_X4_canFill_21, e_X4_canFill_25, e_X4_canFill_26, bI, cfK, kBr, zI, retK, nI, kf_br, bF_I] <;> rfl
theorem c_X6_part (g : PG h p N n f) {i w : Nat} (hi : i < n) (hw : w < 5) : Call sc n_X6_part [aD p, aI (nI i), aI (nI w)] h = some (.inl (some (aI (xC n f i w))), h) := by
  simp only [c0_X6_part, e_X6_part_0, e_X6_part_4, e_X6_part_10, g.f0, bO_some, bF_I, bF_D, bF_C, bC_v, pk_mul, nI_add, Option.toList, List.cons_append, List.nil_append, g.ldx hi hw]
theorem c_X6_kind (g : PG h p N n f) (hv : VK n (xC n f)) {i : Nat} (hi : i < n) : Call sc n_X6_kind [aD p, aI (nI i)] h = some (.inl (some (aC (kx (xC n f) i + 1))), h) := by
  obtain ⟨h1, h2⟩ := hv i hi
  simp only [c0_X6_kind, e_X6_kind_0, e_X6_kind_7, e_X6_kind_13, e_X6_kind_14, g.f0, bO_some, bF_I, bF_D, bF_C, bC_v, pk_mul, nI_add, Option.toList, List.cons_append, List.nil_append, g.ldx hi (show 0 < 5 by omega)]
  rw [h1, kinds_at h2]
  simp only [bO_some, bF_I, bF_D, bF_C, bC_v, pk_mul, nI_add, Option.toList, List.cons_append, List.nil_append, c0_X6_kind, e_X6_kind_0, e_X6_kind_7, e_X6_kind_13, e_X6_kind_14]
theorem c_X6_isBranch (g : PG h p N n f) (hv : VK n (xC n f)) {i : Nat} (hi : i < n) : Call sc n_X6_isBranch [aD p, aI (nI i)] h = some (.inl (some (aI (zI (kBr (kx (xC n f) i))))), h) := by
  obtain ⟨h1, h2⟩ := hv i hi
  simp only [c0_X6_isBranch, e_X6_isBranch_0, e_X6_isBranch_7, e_X6_isBranch_13, e_X6_isBranch_14, e_X6_isBranch_17, g.f0, bO_some, bF_I, bF_D, bF_C, bC_v, pk_mul, nI_add, Option.toList, List.cons_append, List.nil_append, g.ldx hi (show 0 < 5 by omega)]
  rw [h1, kinds_at h2]
  simp only [bO_some, bF_I, bF_D, bF_C, bC_v, pk_mul, nI_add, Option.toList, List.cons_append, List.nil_append, c0_X6_isBranch, e_X6_isBranch_0, e_X6_isBranch_7, e_X6_isBranch_13, e_X6_isBranch_14, e_X6_isBranch_17, kf_br h2]
  exact bI_t (zI_ret _) _
theorem c_X6_target (g : PG h p N n f) {i : Nat} (hi : i < n) : Call sc n_X6_target [aD p, aI (nI i)] h = some (.inl (some (aI (xC n f i 3))), h) := by
  simp only [c0_X6_target, e_X6_target_0, e_X6_target_4, e_X6_target_10, g.f0, bO_some, bF_I, bF_D, bF_C, bC_v, pk_mul, nI_add, Option.toList, List.cons_append, List.nil_append, g.ldx hi (show 3 < 5 by omega)]
theorem c_X6_has (g : PG h p N n f) (x : Int32) : Call sc n_X6_has [aD p, aI x] h = some (.inl (some (aI (zI (decide (¬ x < 0 ∧ ¬ nI n ≤ x))))), h) := by
  simp only [c0_X6_has, e_X6_has_0, e_X6_has_4, e_X6_has_9, e_X6_has_12, e_X6_has_16, e_X6_has_17, g.f1, bO_some, bF_I, bF_D, bF_C, bC_v, pk_mul, nI_add, Option.toList, List.cons_append, List.nil_append]
  by_cases h1 : x < 0
  · simp only [h1, zI_0, if_true, if_false, eq_self, not_true_eq_false, not_false_eq_true, c0_X6_has, e_X6_has_0, e_X6_has_4, e_X6_has_9, e_X6_has_12, e_X6_has_16, e_X6_has_17, false_and, decide_false]
    exact bI_t rfl _
  · by_cases h2 : nI n ≤ x
    · simp only [h1, h2, zI_0, if_true, if_false, eq_self, not_true_eq_false, not_false_eq_true, c0_X6_has, e_X6_has_0, e_X6_has_4, e_X6_has_9, e_X6_has_12, e_X6_has_16, e_X6_has_17, g.f1, bO_some, bF_I, bF_D, bF_C, bC_v, pk_mul, nI_add, Option.toList, List.cons_append, List.nil_append, and_false, decide_false]
      exact bI_t rfl _
    · simp only [h1, h2, zI_0, if_true, if_false, eq_self, not_true_eq_false, not_false_eq_true, c0_X6_has, e_X6_has_0, e_X6_has_4, e_X6_has_9, e_X6_has_12, e_X6_has_16, e_X6_has_17, g.f1, bO_some, bF_I, bF_D, bF_C, bC_v, pk_mul, nI_add, Option.toList, List.cons_append, List.nil_append, and_self, decide_true]
      exact bI_t rfl _
theorem c_X6_isAnnulling (g : PG h p N n f) {i : Nat} (hi : i < n) : Call sc n_X6_isAnnulling [aD p, aI (nI i)] h = some (.inl (some (aI (zI (decide (xC n f i 4 = nI 1))))), h) := by
  simp only [c0_X6_isAnnulling, e_X6_isAnnulling_0, e_X6_isAnnulling_4, e_X6_isAnnulling_10, e_X6_isAnnulling_14, e_X6_isAnnulling_18, e_X6_isAnnulling_19, g.f0, bO_some, bF_I, bF_D, bF_C, bC_v, pk_mul, nI_add, Option.toList, List.cons_append, List.nil_append, g.ldx hi (show 4 < 5 by omega)]
  by_cases h1 : xC n f i 4 = nI 1
  · simp only [h1, zI_0, if_true, if_false, eq_self, not_true_eq_false, not_false_eq_true, c0_X6_isAnnulling, e_X6_isAnnulling_0, e_X6_isAnnulling_4, e_X6_isAnnulling_10, e_X6_isAnnulling_14, e_X6_isAnnulling_18, e_X6_isAnnulling_19, decide_true]
    exact bI_t rfl _
  · simp only [h1, zI_0, if_true, if_false, eq_self, not_true_eq_false, not_false_eq_true, c0_X6_isAnnulling, e_X6_isAnnulling_0, e_X6_isAnnulling_4, e_X6_isAnnulling_10, e_X6_isAnnulling_14, e_X6_isAnnulling_18, e_X6_isAnnulling_19, decide_false]
    exact bI_t rfl _
theorem c_X6_isSlot (g : PG h p N n f) (hv : VK n (xC n f)) {i : Nat} (hi : i ≤ n) : Call sc n_X6_isSlot [aD p, aI (nI i)] h = some (.inl (some (aI (zI (slX (xC n f) i)))), h) := by
  have hn := g.n60
  cases i with
  | zero =>
    simp only [c0_X6_isSlot, e_X6_isSlot_0, e_X6_isSlot_4, e_X6_isSlot_11, e_X6_isSlot_14, e_X6_isSlot_18, e_X6_isSlot_19, show nI 0 ≤ (0 : Int32) from by decide, zI_0, if_true, if_false, eq_self, not_true_eq_false, not_false_eq_true, slX, Nat.lt_irrefl, decide_false, Bool.false_and]
    exact bI_t rfl _
  | succ j =>
    have h1 : ¬ nI (j + 1) ≤ 0 := nI_nle (by omega) (by omega)
    simp only [c0_X6_isSlot, e_X6_isSlot_0, e_X6_isSlot_4, e_X6_isSlot_11, e_X6_isSlot_14, e_X6_isSlot_18, e_X6_isSlot_19, h1, zI_0, if_true, if_false, eq_self, not_true_eq_false, not_false_eq_true, bI_t g.ok, pk_sub (show 1 ≤ j + 1 by omega), Nat.add_sub_cancel, c_X6_isBranch g hv (show j < n by omega), bO_some, bF_I, bF_D, bF_C, bC_v, pk_mul, nI_add, Option.toList, List.cons_append, List.nil_append, slX, Nat.succ_pos, decide_true, Bool.true_and]
    by_cases h2 : kBr (kx (xC n f) j) = true
    · simp only [h2, reduceCtorEq, zI_0, if_true, if_false, eq_self, not_true_eq_false, not_false_eq_true, c0_X6_isSlot, e_X6_isSlot_0, e_X6_isSlot_4, e_X6_isSlot_11, e_X6_isSlot_14, e_X6_isSlot_18, e_X6_isSlot_19]
      exact bI_t rfl _
    · rw [Bool.not_eq_true] at h2
      simp only [h2, zI_0, if_true, if_false, eq_self, not_true_eq_false, not_false_eq_true, c0_X6_isSlot, e_X6_isSlot_0, e_X6_isSlot_4, e_X6_isSlot_11, e_X6_isSlot_14, e_X6_isSlot_18, e_X6_isSlot_19]
      exact bI_t rfl _
theorem c_X6_hasEmptySlot (g : PG h p N n f) (hv : VK n (xC n f)) {i : Nat} (hi : i < n) (hb : kBr (kx (xC n f) i) = true → i + 1 < n) : Call sc n_X6_hasEmptySlot [aD p, aI (nI i)] h = some (.inl (some (aI (zI (esX (xC n f) i)))), h) := by
  simp only [c0_X6_hasEmptySlot, e_X6_hasEmptySlot_0, e_X6_hasEmptySlot_5, e_X6_hasEmptySlot_8, e_X6_hasEmptySlot_15, e_X6_hasEmptySlot_21, e_X6_hasEmptySlot_25, e_X6_hasEmptySlot_26, bI_t g.ok, c_X6_isBranch g hv hi, bO_some, bF_I, bF_D, bF_C, bC_v, pk_mul, nI_add, Option.toList, List.cons_append, List.nil_append, esX]
  by_cases h2 : kBr (kx (xC n f) i) = true
  · have h3 := hv (i + 1) (hb h2)
    simp only [h2, reduceCtorEq, zI_0, if_true, if_false, eq_self, not_true_eq_false, not_false_eq_true, c0_X6_hasEmptySlot, e_X6_hasEmptySlot_0, e_X6_hasEmptySlot_5, e_X6_hasEmptySlot_8, e_X6_hasEmptySlot_15, e_X6_hasEmptySlot_21, e_X6_hasEmptySlot_25, e_X6_hasEmptySlot_26, bI_t g.ok, bO_some, bF_I, bF_D, bF_C, bC_v, pk_mul, nI_add, Option.toList, List.cons_append, List.nil_append, c_X6_kind g hv (hb h2), bI_t (acOK h3.2 ⟨Nat.le_refl 1, by omega⟩), Bool.true_and]
    by_cases h4 : kx (xC n f) (i + 1) = 0
    · simp only [h4, zI_0, if_true, if_false, eq_self, not_true_eq_false, not_false_eq_true, c0_X6_hasEmptySlot, e_X6_hasEmptySlot_0, e_X6_hasEmptySlot_5, e_X6_hasEmptySlot_8, e_X6_hasEmptySlot_15, e_X6_hasEmptySlot_21, e_X6_hasEmptySlot_25, e_X6_hasEmptySlot_26]
      exact bI_t rfl _
    · have h5 : ¬ kx (xC n f) (i + 1) + 1 = 1 := by omega
      have h6 : Nat.beq (kx (xC n f) (i + 1)) 0 = false := by
        cases hc : Nat.beq (kx (xC n f) (i + 1)) 0
        · rfl
        · exact absurd (Nat.eq_of_beq_eq_true hc) h4
      simp only [h5, h6, zI_0, if_true, if_false, eq_self, not_true_eq_false, not_false_eq_true, c0_X6_hasEmptySlot, e_X6_hasEmptySlot_0, e_X6_hasEmptySlot_5, e_X6_hasEmptySlot_8, e_X6_hasEmptySlot_15, e_X6_hasEmptySlot_21, e_X6_hasEmptySlot_25, e_X6_hasEmptySlot_26]
      exact bI_t rfl _
  · rw [Bool.not_eq_true] at h2
    simp only [h2, zI_0, if_true, if_false, eq_self, not_true_eq_false, not_false_eq_true, c0_X6_hasEmptySlot, e_X6_hasEmptySlot_0, e_X6_hasEmptySlot_5, e_X6_hasEmptySlot_8, e_X6_hasEmptySlot_15, e_X6_hasEmptySlot_21, e_X6_hasEmptySlot_25, e_X6_hasEmptySlot_26, Bool.false_and]
    exact bI_t rfl _
theorem c_X6_reads (g : PG h p N n f) (hv : VK n (xC n f)) {i : Nat} (hi : i < n) : Call sc n_X6_reads [aD p, aI (nI i)] h = some (.inl (some (aI (rdX (xC n f) i))), h) := by
  obtain ⟨h1, h2⟩ := hv i hi
  have e0 := g.ldx (sc := sc) hi (show 0 < 5 by omega)
  have e1 := g.ldx (sc := sc) hi (show 1 < 5 by omega)
  have e2 := g.ldx (sc := sc) hi (show 2 < 5 by omega)
  have e3 := g.ldx (sc := sc) hi (show 3 < 5 by omega)
  rw [h1] at e0
  simp only [c0_X6_reads, e_X6_reads_0, e_X6_reads_11, e_X6_reads_15, e_X6_reads_16, e_X6_reads_21, e_X6_reads_24, e_X6_reads_29, e_X6_reads_33, e_X6_reads_37, e_X6_reads_38, e_X6_reads_46, e_X6_reads_49, e_X6_reads_54, e_X6_reads_58, e_X6_reads_62, e_X6_reads_63, e_X6_reads_72, e_X6_reads_75, e_X6_reads_80, e_X6_reads_84, e_X6_reads_88, e_X6_reads_89, g.f0, bO_some, bF_I, bF_D, bF_C, bC_v, pk_mul, nI_add, Option.toList, List.cons_append, List.nil_append, e0, kinds_at h2, kf_a h2]
  unfold rdX sh
  by_cases a1 : kRA (kx (xC n f) i) = true <;> by_cases a2 : kRB (kx (xC n f) i) = true <;> by_cases a3 : kRC (kx (xC n f) i) = true <;>
    (try rw [Bool.not_eq_true] at a1) <;> (try rw [Bool.not_eq_true] at a2) <;> (try rw [Bool.not_eq_true] at a3) <;>
    simp only [a1, a2, a3, reduceCtorEq, zI_0, if_true, if_false, eq_self, not_true_eq_false, not_false_eq_true, c0_X6_reads, e_X6_reads_0, e_X6_reads_11, e_X6_reads_15, e_X6_reads_16, e_X6_reads_21, e_X6_reads_24, e_X6_reads_29, e_X6_reads_33, e_X6_reads_37, e_X6_reads_38, e_X6_reads_46, e_X6_reads_49, e_X6_reads_54, e_X6_reads_58, e_X6_reads_62, e_X6_reads_63, e_X6_reads_72, e_X6_reads_75, e_X6_reads_80, e_X6_reads_84, e_X6_reads_88, e_X6_reads_89, g.f0, bO_some, bF_I, bF_D, bF_C, bC_v, pk_mul, nI_add, Option.toList, List.cons_append, List.nil_append, e1, e2, e3, kf_b h2, kf_c h2]
theorem c_X6_writes (g : PG h p N n f) (hv : VK n (xC n f)) {i : Nat} (hi : i < n) : Call sc n_X6_writes [aD p, aI (nI i)] h = some (.inl (some (aI (wrX (xC n f) i))), h) := by
  obtain ⟨h1, h2⟩ := hv i hi
  have e0 := g.ldx (sc := sc) hi (show 0 < 5 by omega)
  have e1 := g.ldx (sc := sc) hi (show 1 < 5 by omega)
  rw [h1] at e0
  simp only [c0_X6_writes, e_X6_writes_0, e_X6_writes_11, e_X6_writes_15, e_X6_writes_16, e_X6_writes_19, e_X6_writes_22, e_X6_writes_27, e_X6_writes_31, e_X6_writes_35, e_X6_writes_36, g.f0, bO_some, bF_I, bF_D, bF_C, bC_v, pk_mul, nI_add, Option.toList, List.cons_append, List.nil_append, e0, kinds_at h2, kf_w h2]
  unfold wrX sh
  by_cases a1 : kWA (kx (xC n f) i) = true
  · simp only [a1, reduceCtorEq, zI_0, if_true, if_false, eq_self, not_true_eq_false, not_false_eq_true, c0_X6_writes, e_X6_writes_0, e_X6_writes_11, e_X6_writes_15, e_X6_writes_16, e_X6_writes_19, e_X6_writes_22, e_X6_writes_27, e_X6_writes_31, e_X6_writes_35, e_X6_writes_36, g.f0, bO_some, bF_I, bF_D, bF_C, bC_v, pk_mul, nI_add, Option.toList, List.cons_append, List.nil_append, e1]
  · rw [Bool.not_eq_true] at a1
    simp only [a1, reduceCtorEq, zI_0, if_true, if_false, eq_self, not_true_eq_false, not_false_eq_true, c0_X6_writes, e_X6_writes_0, e_X6_writes_11, e_X6_writes_15, e_X6_writes_16, e_X6_writes_19, e_X6_writes_22, e_X6_writes_27, e_X6_writes_31, e_X6_writes_35, e_X6_writes_36, g.f0, bO_some, bF_I, bF_D, bF_C, bC_v, pk_mul, nI_add, Option.toList, List.cons_append, List.nil_append, e1]
end
