/-! PURE 3: the class's program: independence, counts -/
section
variable {sc : SC} {h : AH} {p N n : Nat} {f : Nat → Int32}
theorem c_X6_areIndependent (g : PG h p N n f) (hv : VK n (xC n f)) {i j : Nat} (hi : i < n) (hj : j < n) : Call sc n_X6_areIndependent [aD p, aI (nI i), aI (nI j)] h = some (.inl (some (aI (zI (indX (xC n f) i j)))), h) := by
  have k1 := (hv i hi).2
  have k2 := (hv j hj).2
  simp only [c0_X6_areIndependent, e_X6_areIndependent_0, e_X6_areIndependent_5, e_X6_areIndependent_10, e_X6_areIndependent_15, e_X6_areIndependent_20, e_X6_areIndependent_25, e_X6_areIndependent_30, e_X6_areIndependent_34, e_X6_areIndependent_36, e_X6_areIndependent_41, e_X6_areIndependent_47, e_X6_areIndependent_53, e_X6_areIndependent_56, e_X6_areIndependent_61, e_X6_areIndependent_64, e_X6_areIndependent_71, e_X6_areIndependent_79, e_X6_areIndependent_81, e_X6_areIndependent_88, e_X6_areIndependent_96, e_X6_areIndependent_100, e_X6_areIndependent_101, bI_t g.ok, c_X6_writes g hv hi, c_X6_writes g hv hj, c_X6_reads g hv hi, c_X6_reads g hv hj, bO_some, bF_I, bF_D, bF_C, bC_v, pk_mul, nI_add, Option.toList, List.cons_append, List.nil_append]
  unfold indX
  by_cases q1 : (wrX (xC n f) i &&& (rdX (xC n f) j ||| wrX (xC n f) j)) = 0
  · by_cases q2 : (wrX (xC n f) j &&& rdX (xC n f) i) = 0
    · have k3 := c_X6_kind (sc := sc) g hv hi
      have k4 := c_X6_kind (sc := sc) g hv hj
      simp only [q1, q2, zI_0, if_true, if_false, eq_self, not_true_eq_false, not_false_eq_true, c0_X6_areIndependent, e_X6_areIndependent_0, e_X6_areIndependent_5, e_X6_areIndependent_10, e_X6_areIndependent_15, e_X6_areIndependent_20, e_X6_areIndependent_25, e_X6_areIndependent_30, e_X6_areIndependent_34, e_X6_areIndependent_36, e_X6_areIndependent_41, e_X6_areIndependent_47, e_X6_areIndependent_53, e_X6_areIndependent_56, e_X6_areIndependent_61, e_X6_areIndependent_64, e_X6_areIndependent_71, e_X6_areIndependent_79, e_X6_areIndependent_81, e_X6_areIndependent_88, e_X6_areIndependent_96, e_X6_areIndependent_100, e_X6_areIndependent_101, bI_t g.ok, c_X6_writes g hv hi, c_X6_writes g hv hj, c_X6_reads g hv hi, c_X6_reads g hv hj, k3, k4, bO_some, bF_I, bF_D, bF_C, bC_v, pk_mul, nI_add, Option.toList, List.cons_append, List.nil_append, bI_t (kok k1), c_X4_isMemoryAccess k1, decide_true, Bool.true_and]
      generalize kx (xC n f) i = a at *
      generalize kx (xC n f) j = b at *
      have b1 := fun r => bI_t (acOK k1 (show 1 ≤ 7 ∧ 7 < 13 by omega)) r
      have b2 := fun r => bI_t (acOK k2 (show 1 ≤ 7 ∧ 7 < 13 by omega)) r
      have b3 := fun r => bI_t (acOK k1 (show 1 ≤ 8 ∧ 8 < 13 by omega)) r
      have b4 := fun r => bI_t (acOK k2 (show 1 ≤ 8 ∧ 8 < 13 by omega)) r
      have t101 : ∀ d : Bool, Run sc n_X6_areIndependent 101 [aD p, aI (nI i), aI (nI j), aC (a + 1), aC (b + 1)] none [aI (zI d)] h = some (.inl (some (aI (zI d))), h) := fun d => by
        rw [e_X6_areIndependent_101]
        exact bI_t (zI_ret d) _
      have t81 : Run sc n_X6_areIndependent 81 [aD p, aI (nI i), aI (nI j), aC (a + 1), aC (b + 1)] none [] h = some (.inl (some (aI (zI (!(decide (a = 7) && decide (b = 7)))))), h) := by
        rw [e_X6_areIndependent_81, b3]
        by_cases a7 : a = 7
        · rw [if_neg (by omega), e_X6_areIndependent_88, b4]
          by_cases c7 : b = 7
          · rw [if_pos (by omega), e_X6_areIndependent_100, zI_f, t101, decide_eq_true a7, decide_eq_true c7]
            rfl
          · rw [if_neg (by omega), e_X6_areIndependent_96, zI_t, t101, decide_eq_false c7, Bool.and_false]
            rfl
        · rw [if_pos (by omega), e_X6_areIndependent_96, zI_t, t101, decide_eq_false a7, Bool.false_and]
          rfl
      by_cases m1 : memK a = true
      · rw [m1, if_neg (by decide), e_X6_areIndependent_56, bI_t (kok k2), c_X4_isMemoryAccess k2]
        simp only [bO_some, bF_I, bF_D, bF_C, bC_v, pk_mul, nI_add, Option.toList, List.cons_append, List.nil_append, e_X6_areIndependent_61]
        by_cases m2 : memK b = true
        · rw [m2, if_neg (by decide), e_X6_areIndependent_64, b1]
          by_cases a6 : a = 6
          · rw [if_pos (by omega), e_X6_areIndependent_79, decide_eq_true a6]
            rfl
          · rw [if_neg (by omega), e_X6_areIndependent_71, b2, decide_eq_false a6]
            by_cases c6 : b = 6
            · rw [if_neg (by omega), e_X6_areIndependent_79, decide_eq_true c6]
              rfl
            · rw [if_pos (by omega), t81, decide_eq_false c6]
              rfl
        · rw [Bool.not_eq_true] at m2
          rw [m2, if_pos (by decide), t81]
          rfl
      · rw [Bool.not_eq_true] at m1
        rw [m1, if_pos (by decide), t81]
        rfl
    · simp only [q1, q2, zI_0, if_true, if_false, eq_self, not_true_eq_false, not_false_eq_true, c0_X6_areIndependent, e_X6_areIndependent_0, e_X6_areIndependent_5, e_X6_areIndependent_10, e_X6_areIndependent_15, e_X6_areIndependent_20, e_X6_areIndependent_25, e_X6_areIndependent_30, e_X6_areIndependent_34, e_X6_areIndependent_36, e_X6_areIndependent_41, e_X6_areIndependent_47, e_X6_areIndependent_53, e_X6_areIndependent_56, e_X6_areIndependent_61, e_X6_areIndependent_64, e_X6_areIndependent_71, e_X6_areIndependent_79, e_X6_areIndependent_81, e_X6_areIndependent_88, e_X6_areIndependent_96, e_X6_areIndependent_100, e_X6_areIndependent_101, bI_t g.ok, c_X6_writes g hv hi, c_X6_writes g hv hj, c_X6_reads g hv hi, c_X6_reads g hv hj, bO_some, bF_I, bF_D, bF_C, bC_v, pk_mul, nI_add, Option.toList, List.cons_append, List.nil_append, decide_false, Bool.false_and, Bool.and_false]
      rfl
  · simp only [q1, zI_0, if_true, if_false, eq_self, not_true_eq_false, not_false_eq_true, c0_X6_areIndependent, e_X6_areIndependent_0, e_X6_areIndependent_5, e_X6_areIndependent_10, e_X6_areIndependent_15, e_X6_areIndependent_20, e_X6_areIndependent_25, e_X6_areIndependent_30, e_X6_areIndependent_34, e_X6_areIndependent_36, e_X6_areIndependent_41, e_X6_areIndependent_47, e_X6_areIndependent_53, e_X6_areIndependent_56, e_X6_areIndependent_61, e_X6_areIndependent_64, e_X6_areIndependent_71, e_X6_areIndependent_79, e_X6_areIndependent_81, e_X6_areIndependent_88, e_X6_areIndependent_96, e_X6_areIndependent_100, e_X6_areIndependent_101, decide_false, Bool.false_and]
    rfl
theorem l_X6_branches (g : PG h p N n f) (hv : VK n (xC n f)) : ∀ d i, i + d = n → Run sc n_X6_branches 4 [aD p, aI (nI (cnt i (fun k => kBr (kx (xC n f) k)))), aI (nI i)] none [] h = some (.inl (some (aI (nI (cnt n (fun k => kBr (kx (xC n f) k)))))), h) := by
  have hn := g.n60
  intro d
  induction d with
  | zero =>
    intro i hi
    have hin : i = n := by omega
    simp only [e_X6_branches_0, e_X6_branches_4, e_X6_branches_9, e_X6_branches_12, e_X6_branches_17, e_X6_branches_20, e_X6_branches_23, e_X6_branches_29, g.f1, bF_I, hin, nI_le (Nat.le_refl n) (show n < 2 ^ 31 by omega), if_true]
  | succ d ih =>
    intro i hi
    have h1 : ¬ nI n ≤ nI i := nI_ge (by omega) (by omega)
    have h2 := ih (i + 1) (by omega)
    rw [e_X6_branches_4, g.f1, bF_I]
    simp only [e_X6_branches_0, e_X6_branches_9, e_X6_branches_12, e_X6_branches_17, e_X6_branches_20, e_X6_branches_23, e_X6_branches_29, h1, if_false, bI_t g.ok, c_X6_isBranch g hv (show i < n by omega), bO_some, bF_I, bF_D, bF_C, bC_v, pk_mul, nI_add, Option.toList, List.cons_append, List.nil_append, zI_0]
    by_cases hb : kBr (kx (xC n f) i) = true
    · simp only [cnt, hb, if_true] at h2
      simp only [hb, reduceCtorEq, zI_0, if_true, if_false, eq_self, not_true_eq_false, not_false_eq_true, e_X6_branches_0, e_X6_branches_9, e_X6_branches_12, e_X6_branches_17, e_X6_branches_20, e_X6_branches_23, e_X6_branches_29, nI_add]
      exact h2
    · rw [Bool.not_eq_true] at hb
      simp only [cnt, hb, reduceCtorEq, if_false, Nat.add_zero] at h2
      simp only [hb, reduceCtorEq, zI_0, if_true, if_false, eq_self, not_true_eq_false, not_false_eq_true, e_X6_branches_0, e_X6_branches_9, e_X6_branches_12, e_X6_branches_17, e_X6_branches_20, e_X6_branches_23, e_X6_branches_29, nI_add]
      exact h2
theorem c_X6_branches (g : PG h p N n f) (hv : VK n (xC n f)) : Call sc n_X6_branches [aD p] h = some (.inl (some (aI (nI (cnt n (fun k => kBr (kx (xC n f) k)))))), h) := by
  rw [c0_X6_branches, e_X6_branches_0]
  exact l_X6_branches g hv n 0 (by omega)
/-- a branch is not the last entry -/
def VB (n : Nat) (X : Nat → Nat → Int32) : Prop := ∀ i, i < n → kBr (kx X i) = true → i + 1 < n
theorem l_X6_emptySlots (g : PG h p N n f) (hv : VK n (xC n f)) (hb9 : VB n (xC n f)) : ∀ d i, i + d = n → Run sc n_X6_emptySlots 4 [aD p, aI (nI (cnt i (fun k => esX (xC n f) k))), aI (nI i)] none [] h = some (.inl (some (aI (nI (cnt n (fun k => esX (xC n f) k))))), h) := by
  have hn := g.n60
  intro d
  induction d with
  | zero =>
    intro i hi
    have hin : i = n := by omega
    simp only [e_X6_emptySlots_0, e_X6_emptySlots_4, e_X6_emptySlots_9, e_X6_emptySlots_12, e_X6_emptySlots_17, e_X6_emptySlots_20, e_X6_emptySlots_23, e_X6_emptySlots_29, g.f1, bF_I, hin, nI_le (Nat.le_refl n) (show n < 2 ^ 31 by omega), if_true]
  | succ d ih =>
    intro i hi
    have h1 : ¬ nI n ≤ nI i := nI_ge (by omega) (by omega)
    have h2 := ih (i + 1) (by omega)
    rw [e_X6_emptySlots_4, g.f1, bF_I]
    simp only [e_X6_emptySlots_0, e_X6_emptySlots_9, e_X6_emptySlots_12, e_X6_emptySlots_17, e_X6_emptySlots_20, e_X6_emptySlots_23, e_X6_emptySlots_29, h1, if_false, bI_t g.ok, c_X6_hasEmptySlot g hv (show i < n by omega) (hb9 i (by omega)), bO_some, bF_I, bF_D, bF_C, bC_v, pk_mul, nI_add, Option.toList, List.cons_append, List.nil_append, zI_0]
    by_cases hb : esX (xC n f) i = true
    · simp only [cnt, hb, if_true] at h2
      simp only [hb, reduceCtorEq, zI_0, if_true, if_false, eq_self, not_true_eq_false, not_false_eq_true, e_X6_emptySlots_0, e_X6_emptySlots_9, e_X6_emptySlots_12, e_X6_emptySlots_17, e_X6_emptySlots_20, e_X6_emptySlots_23, e_X6_emptySlots_29, nI_add]
      exact h2
    · rw [Bool.not_eq_true] at hb
      simp only [cnt, hb, reduceCtorEq, if_false, Nat.add_zero] at h2
      simp only [hb, reduceCtorEq, zI_0, if_true, if_false, eq_self, not_true_eq_false, not_false_eq_true, e_X6_emptySlots_0, e_X6_emptySlots_9, e_X6_emptySlots_12, e_X6_emptySlots_17, e_X6_emptySlots_20, e_X6_emptySlots_23, e_X6_emptySlots_29, nI_add]
      exact h2
theorem c_X6_emptySlots (g : PG h p N n f) (hv : VK n (xC n f)) (hb9 : VB n (xC n f)) : Call sc n_X6_emptySlots [aD p] h = some (.inl (some (aI (nI (cnt n (fun k => esX (xC n f) k))))), h) := by
  rw [c0_X6_emptySlots, e_X6_emptySlots_0]
  exact l_X6_emptySlots g hv hb9 n 0 (by omega)
/-- the marks are 0 and 1 -/
def VA (n : Nat) (X : Nat → Nat → Int32) : Prop := ∀ i, i < n → X i 4 = nI 0 ∨ X i 4 = nI 1
theorem l_X6_annullingBranches (g : PG h p N n f) (ha : VA n (xC n f)) : ∀ d i, i + d = n → Run sc n_X6_annullingBranches 4 [aD p, aI (nI (cnt i (fun k => decide (xC n f k 4 = nI 1)))), aI (nI i)] none [] h = some (.inl (some (aI (nI (cnt n (fun k => decide (xC n f k 4 = nI 1)))))), h) := by
  have hn := g.n60
  intro d
  induction d with
  | zero =>
    intro i hi
    have hin : i = n := by omega
    simp only [e_X6_annullingBranches_0, e_X6_annullingBranches_4, e_X6_annullingBranches_9, e_X6_annullingBranches_12, e_X6_annullingBranches_19, e_X6_annullingBranches_27, g.f1, bF_I, hin, nI_le (Nat.le_refl n) (show n < 2 ^ 31 by omega), if_true]
  | succ d ih =>
    intro i hi
    have h1 : ¬ nI n ≤ nI i := nI_ge (by omega) (by omega)
    have h2 := ih (i + 1) (by omega)
    rw [e_X6_annullingBranches_4, g.f1, bF_I]
    simp only [e_X6_annullingBranches_0, e_X6_annullingBranches_9, e_X6_annullingBranches_12, e_X6_annullingBranches_19, e_X6_annullingBranches_27, h1, if_false, bI_t g.ok, c_X6_part g (show i < n by omega) (show 4 < 5 by omega), bO_some, bF_I, bF_D, bF_C, bC_v, pk_mul, nI_add, Option.toList, List.cons_append, List.nil_append, zI_0]
    rcases ha i (by omega) with hb | hb
    · simp only [cnt, hb, show ¬ (nI 0 = nI 1) from by decide, decide_false, reduceCtorEq, if_false, Nat.add_zero] at h2
      simp only [hb, nI_add, Nat.add_zero]
      exact h2
    · simp only [cnt, hb, decide_true, if_true] at h2
      simp only [hb, nI_add]
      exact h2
theorem c_X6_annullingBranches (g : PG h p N n f) (ha : VA n (xC n f)) : Call sc n_X6_annullingBranches [aD p] h = some (.inl (some (aI (nI (cnt n (fun k => decide (xC n f k 4 = nI 1)))))), h) := by
  rw [c0_X6_annullingBranches, e_X6_annullingBranches_0]
  exact l_X6_annullingBranches g ha n 0 (by omega)
theorem l_X6_nops (g : PG h p N n f) (hv : VK n (xC n f)) : ∀ d i, i + d = n → Run sc n_X6_nops 4 [aD p, aI (nI (cnt i (fun k => Nat.beq (kx (xC n f) k) 0))), aI (nI i)] none [] h = some (.inl (some (aI (nI (cnt n (fun k => Nat.beq (kx (xC n f) k) 0))))), h) := by
  have hn := g.n60
  intro d
  induction d with
  | zero =>
    intro i hi
    have hin : i = n := by omega
    simp only [e_X6_nops_0, e_X6_nops_4, e_X6_nops_9, e_X6_nops_12, e_X6_nops_17, e_X6_nops_23, e_X6_nops_26, e_X6_nops_32, g.f1, bF_I, hin, nI_le (Nat.le_refl n) (show n < 2 ^ 31 by omega), if_true]
  | succ d ih =>
    intro i hi
    have h1 : ¬ nI n ≤ nI i := nI_ge (by omega) (by omega)
    have h2 := ih (i + 1) (by omega)
    rw [e_X6_nops_4, g.f1, bF_I]
    simp only [e_X6_nops_0, e_X6_nops_9, e_X6_nops_12, e_X6_nops_17, e_X6_nops_23, e_X6_nops_26, e_X6_nops_32, h1, if_false, bI_t g.ok, c_X6_kind g hv (show i < n by omega), bO_some, bF_I, bF_D, bF_C, bC_v, pk_mul, nI_add, Option.toList, List.cons_append, List.nil_append, bI_t (acOK (hv i (by omega)).2 ⟨Nat.le_refl 1, by omega⟩)]
    by_cases hb : kx (xC n f) i = 0
    · simp only [cnt, hb, show Nat.beq 0 0 = true from rfl, if_true] at h2
      simp only [hb, zI_0, if_true, if_false, eq_self, not_true_eq_false, not_false_eq_true, e_X6_nops_0, e_X6_nops_9, e_X6_nops_12, e_X6_nops_17, e_X6_nops_23, e_X6_nops_26, e_X6_nops_32, nI_add]
      exact h2
    · have h6 : Nat.beq (kx (xC n f) i) 0 = false := by
        cases hc : Nat.beq (kx (xC n f) i) 0
        · rfl
        · exact absurd (Nat.eq_of_beq_eq_true hc) hb
      have h5 : ¬ kx (xC n f) i + 1 = 1 := by omega
      simp only [cnt, h6, reduceCtorEq, if_false, Nat.add_zero] at h2
      simp only [h5, zI_0, if_true, if_false, eq_self, not_true_eq_false, not_false_eq_true, e_X6_nops_0, e_X6_nops_9, e_X6_nops_12, e_X6_nops_17, e_X6_nops_23, e_X6_nops_26, e_X6_nops_32, nI_add]
      exact h2
theorem c_X6_nops (g : PG h p N n f) (hv : VK n (xC n f)) : Call sc n_X6_nops [aD p] h = some (.inl (some (aI (nI (cnt n (fun k => Nat.beq (kx (xC n f) k) 0))))), h) := by
  rw [c0_X6_nops, e_X6_nops_0]
  exact l_X6_nops g hv n 0 (by omega)
theorem l_X6_branchesTo (g : PG h p N n f) (hv : VK n (xC n f)) (x : Int32) : ∀ d i, i + d = n → Run sc n_X6_branchesTo 4 [aD p, aI x, aI (nI (cnt i (fun k => kBr (kx (xC n f) k) && decide (xC n f k 3 = x)))), aI (nI i)] none [] h = some (.inl (some (aI (nI (cnt n (fun k => kBr (kx (xC n f) k) && decide (xC n f k 3 = x)))))), h) := by
  have hn := g.n60
  intro d
  induction d with
  | zero =>
    intro i hi
    have hin : i = n := by omega
    simp only [e_X6_branchesTo_0, e_X6_branchesTo_4, e_X6_branchesTo_9, e_X6_branchesTo_12, e_X6_branchesTo_17, e_X6_branchesTo_20, e_X6_branchesTo_25, e_X6_branchesTo_29, e_X6_branchesTo_32, e_X6_branchesTo_38, g.f1, bF_I, hin, nI_le (Nat.le_refl n) (show n < 2 ^ 31 by omega), if_true]
  | succ d ih =>
    intro i hi
    have h1 : ¬ nI n ≤ nI i := nI_ge (by omega) (by omega)
    have h2 := ih (i + 1) (by omega)
    rw [e_X6_branchesTo_4, g.f1, bF_I]
    simp only [e_X6_branchesTo_0, e_X6_branchesTo_9, e_X6_branchesTo_12, e_X6_branchesTo_17, e_X6_branchesTo_20, e_X6_branchesTo_25, e_X6_branchesTo_29, e_X6_branchesTo_32, e_X6_branchesTo_38, h1, if_false, bI_t g.ok, c_X6_isBranch g hv (show i < n by omega), bO_some, bF_I, bF_D, bF_C, bC_v, pk_mul, nI_add, Option.toList, List.cons_append, List.nil_append, zI_0]
    by_cases hb : kBr (kx (xC n f) i) = true
    · by_cases hx : xC n f i 3 = x
      · simp only [cnt, hb, hx, decide_true, Bool.and_self, if_true] at h2
        simp only [hb, hx, reduceCtorEq, zI_0, if_true, if_false, eq_self, not_true_eq_false, not_false_eq_true, e_X6_branchesTo_0, e_X6_branchesTo_9, e_X6_branchesTo_12, e_X6_branchesTo_17, e_X6_branchesTo_20, e_X6_branchesTo_25, e_X6_branchesTo_29, e_X6_branchesTo_32, e_X6_branchesTo_38, bI_t g.ok, c_X6_target g (show i < n by omega), bO_some, bF_I, bF_D, bF_C, bC_v, pk_mul, nI_add, Option.toList, List.cons_append, List.nil_append]
        exact h2
      · simp only [cnt, hb, hx, decide_false, Bool.and_false, reduceCtorEq, if_false, Nat.add_zero] at h2
        simp only [hb, hx, reduceCtorEq, zI_0, if_true, if_false, eq_self, not_true_eq_false, not_false_eq_true, e_X6_branchesTo_0, e_X6_branchesTo_9, e_X6_branchesTo_12, e_X6_branchesTo_17, e_X6_branchesTo_20, e_X6_branchesTo_25, e_X6_branchesTo_29, e_X6_branchesTo_32, e_X6_branchesTo_38, bI_t g.ok, c_X6_target g (show i < n by omega), bO_some, bF_I, bF_D, bF_C, bC_v, pk_mul, nI_add, Option.toList, List.cons_append, List.nil_append]
        exact h2
    · rw [Bool.not_eq_true] at hb
      simp only [cnt, hb, Bool.false_and, reduceCtorEq, if_false, Nat.add_zero] at h2
      simp only [hb, reduceCtorEq, zI_0, if_true, if_false, eq_self, not_true_eq_false, not_false_eq_true, e_X6_branchesTo_0, e_X6_branchesTo_9, e_X6_branchesTo_12, e_X6_branchesTo_17, e_X6_branchesTo_20, e_X6_branchesTo_25, e_X6_branchesTo_29, e_X6_branchesTo_32, e_X6_branchesTo_38, nI_add]
      exact h2
/-- how many branches have the target x -/
def toX (n : Nat) (X : Nat → Nat → Int32) (x : Int32) : Nat := cnt n (fun k => kBr (kx X k) && decide (X k 3 = x))
theorem c_X6_branchesTo (g : PG h p N n f) (hv : VK n (xC n f)) (x : Int32) : Call sc n_X6_branchesTo [aD p, aI x] h = some (.inl (some (aI (nI (toX n (xC n f) x)))), h) := by
  rw [c0_X6_branchesTo, e_X6_branchesTo_0]
  exact l_X6_branchesTo g hv x n 0 (by omega)
/-- which entry an instruction becomes -/
def eoX (X : Nat → Nat → Int32) (i : Nat) : Nat := i + cnt i (fun k => kBr (kx X k))
theorem l_X6_entryOf (g : PG h p N n f) (hv : VK n (xC n f)) {m : Nat} (hm : m ≤ n) : ∀ d i, i + d = m → Run sc n_X6_entryOf 4 [aD p, aI (nI m), aI (nI (m + cnt i (fun k => kBr (kx (xC n f) k)))), aI (nI i)] none [] h = some (.inl (some (aI (nI (eoX (xC n f) m)))), h) := by
  have hn := g.n60
  intro d
  induction d with
  | zero =>
    intro i hi
    have hin : i = m := by omega
    simp only [e_X6_entryOf_0, e_X6_entryOf_4, e_X6_entryOf_9, e_X6_entryOf_14, e_X6_entryOf_17, e_X6_entryOf_20, e_X6_entryOf_26, hin, nI_le (Nat.le_refl m) (show m < 2 ^ 31 by omega), if_true]
    rfl
  | succ d ih =>
    intro i hi
    have h1 : ¬ nI m ≤ nI i := nI_ge (by omega) (by omega)
    have h2 := ih (i + 1) (by omega)
    rw [e_X6_entryOf_4]
    simp only [e_X6_entryOf_0, e_X6_entryOf_9, e_X6_entryOf_14, e_X6_entryOf_17, e_X6_entryOf_20, e_X6_entryOf_26, h1, if_false, bI_t g.ok, c_X6_isBranch g hv (show i < n by omega), bO_some, bF_I, bF_D, bF_C, bC_v, pk_mul, nI_add, Option.toList, List.cons_append, List.nil_append, zI_0]
    by_cases hb : kBr (kx (xC n f) i) = true
    · simp only [cnt, hb, if_true] at h2
      simp only [hb, reduceCtorEq, zI_0, if_true, if_false, eq_self, not_true_eq_false, not_false_eq_true, e_X6_entryOf_0, e_X6_entryOf_9, e_X6_entryOf_14, e_X6_entryOf_17, e_X6_entryOf_20, e_X6_entryOf_26, nI_add]
      exact h2
    · rw [Bool.not_eq_true] at hb
      simp only [cnt, hb, reduceCtorEq, if_false, Nat.add_zero] at h2
      simp only [hb, reduceCtorEq, zI_0, if_true, if_false, eq_self, not_true_eq_false, not_false_eq_true, e_X6_entryOf_0, e_X6_entryOf_9, e_X6_entryOf_14, e_X6_entryOf_17, e_X6_entryOf_20, e_X6_entryOf_26, nI_add]
      exact h2
theorem c_X6_entryOf (g : PG h p N n f) (hv : VK n (xC n f)) {m : Nat} (hm : m ≤ n) : Call sc n_X6_entryOf [aD p, aI (nI m)] h = some (.inl (some (aI (nI (eoX (xC n f) m)))), h) := by
  rw [c0_X6_entryOf, e_X6_entryOf_0]
  exact l_X6_entryOf g hv hm m 0 (by omega)
end
