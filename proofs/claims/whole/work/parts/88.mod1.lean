/-! PURE 29: the reference, its form read -/
/-- the reference's object p with its form: n entries -/
def FO (h : AH) (p : Nat) (fs : List AV) (qf n : Nat) (g : Nat → Int32) : Prop := hget h p = some (oO 12 fs) ∧ fs[3]? = some (aD qf) ∧ hget h qf = some (oI 0 301 g) ∧ g 0 = nI n ∧ n ≤ 60
section
variable {sc : SC} {h h' : AH} {p qf n i j k w : Nat} {fs : List AV} {g : Nat → Int32} {x x1 x2 x3 lo hi : Int32} {S : Nat → Prop} {v2 v3 v4 : AV}
theorem FO.f3 (o : FO h p fs qf n g) : getF sc h (aD p) 12 3 = some (aD qf) := getF_D o.1 o.2.1
theorem FO.ok (o : FO h p fs qf n g) : rOK sc h (aD p) 12 = true := rOK_D o.1
theorem FO.ld (o : FO h p fs qf n g) (hj : j < 301) : ldI sc h (fun t => t == 0) (aD qf) (nI j) = some (g j) := ldI_D o.2.2.1 rfl hj (by omega)
theorem c_isIn : Call sc n_X10_isIn [aI x, aI lo, aI hi] h = some (.inl (some (aI (zI (decide (¬ x < lo ∧ ¬ hi < x))))), h) := by
  by_cases h1 : x < lo
  · simp only [c0_X10_isIn, e_X10_isIn_0, e_X10_isIn_5, e_X10_isIn_10, e_X10_isIn_14, e_X10_isIn_15, h1, if_true, bO_some, bF_I, bF_D, bF_C, bC_v, pk_mul, nI_add, Option.toList, List.cons_append, List.nil_append, not_true_eq_false, false_and, decide_false]
    exact bI_t rfl _
  · by_cases h2 : hi < x
    · simp only [c0_X10_isIn, e_X10_isIn_0, e_X10_isIn_5, e_X10_isIn_10, e_X10_isIn_14, e_X10_isIn_15, h1, h2, if_true, if_false, bO_some, bF_I, bF_D, bF_C, bC_v, pk_mul, nI_add, Option.toList, List.cons_append, List.nil_append, not_true_eq_false, and_false, decide_false]
      exact bI_t rfl _
    · simp only [c0_X10_isIn, e_X10_isIn_0, e_X10_isIn_5, e_X10_isIn_10, e_X10_isIn_14, e_X10_isIn_15, h1, h2, if_false, bO_some, bF_I, bF_D, bF_C, bC_v, pk_mul, nI_add, Option.toList, List.cons_append, List.nil_append, not_false_eq_true, and_self, decide_true]
      exact bI_t rfl _
theorem inBr (hk : k < 12) : decide (¬ nI k < nI 8 ∧ ¬ nI 10 < nI k) = kBr k := by
  rcases twelve hk with rfl | rfl | rfl | rfl | rfl | rfl | rfl | rfl | rfl | rfl | rfl | rfl <;> decide
theorem inW (hk : k < 12) : decide (¬ nI k < nI 1 ∧ ¬ nI 5 < nI k) = kWA k := by
  rcases twelve hk with rfl | rfl | rfl | rfl | rfl | rfl | rfl | rfl | rfl | rfl | rfl | rfl <;> decide
theorem inMem (hk : k < 12) : decide (¬ nI k < nI 5 ∧ ¬ nI 6 < nI k) = memK k := by
  rcases twelve hk with rfl | rfl | rfl | rfl | rfl | rfl | rfl | rfl | rfl | rfl | rfl | rfl <;> decide
theorem c_isBranch (hk : k < 12) : Call sc n_X10_isBranch [aI (nI k)] h = some (.inl (some (aI (zI (kBr k)))), h) := by
  simp only [c0_X10_isBranch, e_X10_isBranch_0, e_X10_isBranch_8, c_isIn, inBr hk, bO_some, bF_I, bF_D, bF_C, bC_v, pk_mul, nI_add, Option.toList, List.cons_append, List.nil_append]
  exact bI_t (zI_ret _) _
theorem c_at (o : FO h p fs qf n g) (hi : i < n) (hw : w < 5) : Call sc n_X10_at [aD p, aI (nI i), aI (nI w)] h = some (.inl (some (aI (xM n g i w))), h) := by
  have hn := o.2.2.2.2
  have e := o.ld (sc := sc) (show 1 + 5 * i + w < 301 by omega)
  rw [xM_at (g := g) hi hw] at e
  simp only [c0_X10_at, e_X10_at_0, e_X10_at_4, e_X10_at_12, o.f3, bO_some, bF_I, bF_D, bF_C, bC_v, pk_mul, nI_add, Option.toList, List.cons_append, List.nil_append, e]
theorem c_atK (o : FO h p fs qf n g) (hv : VK n (xM n g)) (hi : i < n) : Call sc n_X10_at [aD p, aI (nI i), aI (nI 0)] h = some (.inl (some (aI (nI (kx (xM n g) i)))), h) := by
  rw [c_at o hi (by omega), (hv i hi).1]
theorem c_entryMany (o : FO h p fs qf n g) : Call sc n_X10_entryMany [aD p] h = some (.inl (some (aI (nI n))), h) := by
  simp only [c0_X10_entryMany, e_X10_entryMany_0, e_X10_entryMany_4, e_X10_entryMany_6, o.f3, bO_some, bF_I, bF_D, bF_C, bC_v, pk_mul, nI_add, Option.toList, List.cons_append, List.nil_append, o.ld (show 0 < 301 by omega), o.2.2.2.1]
theorem c_X10_isSlot (o : FO h p fs qf n g) (hv : VK n (xM n g)) (hi : i ≤ n) : Call sc n_X10_isSlot [aD p, aI (nI i)] h = some (.inl (some (aI (zI (slX (xM n g) i)))), h) := by
  have hn := o.2.2.2.2
  cases i with
  | zero =>
    simp only [c0_X10_isSlot, e_X10_isSlot_0, e_X10_isSlot_4, e_X10_isSlot_12, e_X10_isSlot_15, e_X10_isSlot_18, e_X10_isSlot_22, e_X10_isSlot_23, show nI 0 ≤ (0 : Int32) from by decide, zI_0, if_true, if_false, eq_self, not_true_eq_false, not_false_eq_true, slX, Nat.lt_irrefl, decide_false, Bool.false_and]
    exact bI_t rfl _
  | succ j =>
    have h1 : ¬ nI (j + 1) ≤ 0 := nI_nle (by omega) (by omega)
    have hj : j < n := by omega
    simp only [c0_X10_isSlot, e_X10_isSlot_0, e_X10_isSlot_4, e_X10_isSlot_12, e_X10_isSlot_15, e_X10_isSlot_18, e_X10_isSlot_22, e_X10_isSlot_23, h1, zI_0, if_true, if_false, eq_self, not_true_eq_false, not_false_eq_true, bI_t o.ok, pk_sub (show 1 ≤ j + 1 by omega), Nat.add_sub_cancel, c_atK o hv hj, c_isBranch (hv j hj).2, bO_some, bF_I, bF_D, bF_C, bC_v, pk_mul, nI_add, Option.toList, List.cons_append, List.nil_append, slX, Nat.succ_pos, decide_true, Bool.true_and]
    by_cases h2 : kBr (kx (xM n g) j) = true
    · simp only [h2, reduceCtorEq, zI_0, if_true, if_false, eq_self, not_true_eq_false, not_false_eq_true, c0_X10_isSlot, e_X10_isSlot_0, e_X10_isSlot_4, e_X10_isSlot_12, e_X10_isSlot_15, e_X10_isSlot_18, e_X10_isSlot_22, e_X10_isSlot_23]
      exact bI_t rfl _
    · rw [Bool.not_eq_true] at h2
      simp only [h2, zI_0, if_true, if_false, eq_self, not_true_eq_false, not_false_eq_true, c0_X10_isSlot, e_X10_isSlot_0, e_X10_isSlot_4, e_X10_isSlot_12, e_X10_isSlot_15, e_X10_isSlot_18, e_X10_isSlot_22, e_X10_isSlot_23]
      exact bI_t rfl _
theorem has_in (hn : n < 2 ^ 30) (x : Int32) : decide (¬ x < nI 0 ∧ ¬ nI n - nI 1 < x) = decide (¬ x < 0 ∧ ¬ nI n ≤ x) := by
  have h1 : (nI n - nI 1).toInt = (n : Int) - 1 := pk_sub_toInt hn (by omega)
  have h2 := nI_toInt (show n < 2 ^ 31 by omega)
  have h3 : (nI n - nI 1 < x) = (nI n ≤ x) := by
    apply propext
    rw [Int32.lt_iff_toInt_lt, Int32.le_iff_toInt_le, h1, h2]
    omega
  have h0 : nI 0 = 0 := rfl
  simp only [h3, h0]
theorem c_isEntry (o : FO h p fs qf n g) (x : Int32) : Call sc n_X10_isEntry [aD p, aI x] h = some (.inl (some (aI (zI (decide (¬ x < 0 ∧ ¬ nI n ≤ x))))), h) := by
  have hn := o.2.2.2.2
  simp only [c0_X10_isEntry, e_X10_isEntry_0, e_X10_isEntry_6, e_X10_isEntry_11, bI_t o.ok, c_entryMany o, c_isIn, bO_some, bF_I, bF_D, bF_C, bC_v, pk_mul, nI_add, Option.toList, List.cons_append, List.nil_append, has_in (show n < 2 ^ 30 by omega)]
  exact bI_t (zI_ret _) _
theorem l_targeted (o : FO h p fs qf n g) (hv : VK n (xM n g)) (x : Int32) : ∀ d i, i + d = n → Run sc n_X10_targeted 4 [aD p, aI x, aI (nI (cnt i (fun k => kBr (kx (xM n g) k) && decide (xM n g k 3 = x)))), aI (nI i)] none [] h = some (.inl (some (aI (nI (toX n (xM n g) x)))), h) := by
  have hn := o.2.2.2.2
  intro d
  induction d with
  | zero =>
    intro i hi
    have hin : i = n := by omega
    subst hin
    simp only [e_X10_targeted_4, e_X10_targeted_9, e_X10_targeted_48, bI_t o.ok, c_entryMany o, bO_some, bF_I, bF_D, bF_C, bC_v, pk_mul, nI_add, Option.toList, List.cons_append, List.nil_append, nI_le (Nat.le_refl i) (show i < 2 ^ 31 by omega), if_true]
    rfl
  | succ d ih =>
    intro i hi
    have hin : i < n := by omega
    have h1 : ¬ nI n ≤ nI i := nI_ge (by omega) (by omega)
    have h2 := ih (i + 1) (by omega)
    rw [e_X10_targeted_4]
    simp only [e_X10_targeted_9, e_X10_targeted_12, e_X10_targeted_19, e_X10_targeted_22, bI_t o.ok, c_entryMany o, c_atK o hv hin, c_isBranch (hv i hin).2, bO_some, bF_I, bF_D, bF_C, bC_v, pk_mul, nI_add, Option.toList, List.cons_append, List.nil_append, h1, if_false, zI_0]
    by_cases hb : kBr (kx (xM n g) i) = true
    · by_cases hx : xM n g i 3 = x
      · simp only [cnt, hb, hx, decide_true, Bool.and_self, if_true] at h2
        simp only [hb, hx, reduceCtorEq, zI_0, if_true, if_false, eq_self, not_true_eq_false, not_false_eq_true, e_X10_targeted_25, e_X10_targeted_31, e_X10_targeted_35, e_X10_targeted_40, bI_t o.ok, c_at o hin (show 3 < 5 by omega), bO_some, bF_I, bF_D, bF_C, bC_v, pk_mul, nI_add, Option.toList, List.cons_append, List.nil_append]
        exact h2
      · simp only [cnt, hb, hx, decide_false, Bool.and_false, reduceCtorEq, if_false, Nat.add_zero] at h2
        simp only [hb, hx, reduceCtorEq, zI_0, if_true, if_false, eq_self, not_true_eq_false, not_false_eq_true, e_X10_targeted_25, e_X10_targeted_31, e_X10_targeted_39, e_X10_targeted_40, bI_t o.ok, c_at o hin (show 3 < 5 by omega), bO_some, bF_I, bF_D, bF_C, bC_v, pk_mul, nI_add, Option.toList, List.cons_append, List.nil_append, Nat.add_zero]
        exact h2
    · rw [Bool.not_eq_true] at hb
      simp only [cnt, hb, Bool.false_and, reduceCtorEq, if_false, Nat.add_zero] at h2
      simp only [hb, reduceCtorEq, zI_0, if_true, if_false, eq_self, not_true_eq_false, not_false_eq_true, e_X10_targeted_39, e_X10_targeted_40, bO_some, bF_I, bF_D, bF_C, bC_v, pk_mul, nI_add, Option.toList, List.cons_append, List.nil_append, Nat.add_zero]
      exact h2
theorem c_X10_targeted (o : FO h p fs qf n g) (hv : VK n (xM n g)) (x : Int32) : Call sc n_X10_targeted [aD p, aI x] h = some (.inl (some (aI (nI (toX n (xM n g) x)))), h) := by
  rw [c0_X10_targeted, e_X10_targeted_0]
  exact l_targeted o hv x n 0 (by omega)
theorem oz (x : Int32) : x ||| nI 0 = x := by
  show x ||| 0 = x
  simp
theorem zo (x : Int32) : nI 0 ||| x = x := by
  show 0 ||| x = x
  simp
def swR (y : Int32) : Nat := if (y).toInt < 2 ∨ 9 < (y).toInt then 91 else ([72, 74, 74, 72, 85, 89, 85, 85] : List Nat).getD ((y).toInt - 2).toNat 0
theorem swR_eq (y : Int32) : (if (y).toInt < 2 ∨ 9 < (y).toInt then 91 else ([72, 74, 74, 72, 85, 89, 85, 85] : List Nat).getD ((y).toInt - 2).toNat 0) = swR y := rfl
def swRk (k : Nat) : Nat := ([91, 91, 72, 74, 74, 72, 85, 89, 85, 85, 91, 91] : List Nat).getD k 0
theorem swR_k (hk : k < 12) : swR (nI k) = swRk k := by
  rcases twelve hk with rfl | rfl | rfl | rfl | rfl | rfl | rfl | rfl | rfl | rfl | rfl | rfl <;> decide
theorem c_X10_reads (o : FO h p fs qf n g) (hv : VK n (xM n g)) (hi : i < n) : Call sc n_X10_reads [aD p, aI (nI i)] h = some (.inl (some (aI (rdX (xM n g) i))), h) := by
  have k1 := (hv i hi).2
  have e1 := c_at (sc := sc) o hi (show 1 < 5 by omega)
  have e2 := c_at (sc := sc) o hi (show 2 < 5 by omega)
  have e3 := c_at (sc := sc) o hi (show 3 < 5 by omega)
  have e0 := c_atK (sc := sc) o hv hi
  simp only [c0_X10_reads, e_X10_reads_0, e_X10_reads_7, e_X10_reads_16, e_X10_reads_24, bI_t o.ok, e0, e1, e2, swR_eq, swR_k k1, bO_some, bF_I, bF_D, bF_C, bC_v, pk_mul, nI_add, Option.toList, List.cons_append, List.nil_append]
  unfold rdX
  show Run sc n_X10_reads (swRk (kx (xM n g) i)) [aD p, aI (nI i), aI (sh (xM n g i 1)), aI (sh (xM n g i 2))] none [] h = _
  have e3' : sh (xM n g i 3) = nI 1 <<< (xM n g i 3 &&& 31) := rfl
  generalize kx (xM n g) i = k at *
  rcases twelve k1 with rfl | rfl | rfl | rfl | rfl | rfl | rfl | rfl | rfl | rfl | rfl | rfl
  · rw [show swRk 0 = 91 from rfl, e_X10_reads_91, show kRA 0 = false from rfl, show kRB 0 = false from rfl, show kRC 0 = false from rfl, if_neg (by decide), if_neg (by decide), if_neg (by decide), oz, oz]
  · rw [show swRk 1 = 91 from rfl, e_X10_reads_91, show kRA 1 = false from rfl, show kRB 1 = false from rfl, show kRC 1 = false from rfl, if_neg (by decide), if_neg (by decide), if_neg (by decide), oz, oz]
  · rw [show swRk 2 = 72 from rfl, e_X10_reads_72, show kRA 2 = false from rfl, show kRB 2 = true from rfl, show kRC 2 = false from rfl, if_neg (by decide), if_pos rfl, if_neg (by decide), zo, oz]
  · rw [show swRk 3 = 74 from rfl, e_X10_reads_74, bI_t o.ok, e3, bC_v, show kRA 3 = false from rfl, show kRB 3 = true from rfl, show kRC 3 = true from rfl, if_neg (by decide), if_pos rfl, if_pos rfl, zo]
    simp only [Option.toList, List.cons_append, List.nil_append, e_X10_reads_82]
    rfl
  · rw [show swRk 4 = 74 from rfl, e_X10_reads_74, bI_t o.ok, e3, bC_v, show kRA 4 = false from rfl, show kRB 4 = true from rfl, show kRC 4 = true from rfl, if_neg (by decide), if_pos rfl, if_pos rfl, zo]
    simp only [Option.toList, List.cons_append, List.nil_append, e_X10_reads_82]
    rfl
  · rw [show swRk 5 = 72 from rfl, e_X10_reads_72, show kRA 5 = false from rfl, show kRB 5 = true from rfl, show kRC 5 = false from rfl, if_neg (by decide), if_pos rfl, if_neg (by decide), zo, oz]
  · rw [show swRk 6 = 85 from rfl, e_X10_reads_85, show kRA 6 = true from rfl, show kRB 6 = true from rfl, show kRC 6 = false from rfl, if_pos rfl, if_pos rfl, if_neg (by decide), oz]
  · rw [show swRk 7 = 89 from rfl, e_X10_reads_89, show kRA 7 = true from rfl, show kRB 7 = false from rfl, show kRC 7 = false from rfl, if_pos rfl, if_neg (by decide), if_neg (by decide), oz, oz]
  · rw [show swRk 8 = 85 from rfl, e_X10_reads_85, show kRA 8 = true from rfl, show kRB 8 = true from rfl, show kRC 8 = false from rfl, if_pos rfl, if_pos rfl, if_neg (by decide), oz]
  · rw [show swRk 9 = 85 from rfl, e_X10_reads_85, show kRA 9 = true from rfl, show kRB 9 = true from rfl, show kRC 9 = false from rfl, if_pos rfl, if_pos rfl, if_neg (by decide), oz]
  · rw [show swRk 10 = 91 from rfl, e_X10_reads_91, show kRA 10 = false from rfl, show kRB 10 = false from rfl, show kRC 10 = false from rfl, if_neg (by decide), if_neg (by decide), if_neg (by decide), oz, oz]
  · rw [show swRk 11 = 91 from rfl, e_X10_reads_91, show kRA 11 = false from rfl, show kRB 11 = false from rfl, show kRC 11 = false from rfl, if_neg (by decide), if_neg (by decide), if_neg (by decide), oz, oz]
theorem c_X10_writes (o : FO h p fs qf n g) (hv : VK n (xM n g)) (hi : i < n) : Call sc n_X10_writes [aD p, aI (nI i)] h = some (.inl (some (aI (wrX (xM n g) i))), h) := by
  have k1 := (hv i hi).2
  have e1 := c_at (sc := sc) o hi (show 1 < 5 by omega)
  simp only [c0_X10_writes, e_X10_writes_0, e_X10_writes_6, e_X10_writes_11, bI_t o.ok, c_atK o hv hi, c_isIn, inW k1, bO_some, bF_I, bF_D, bF_C, bC_v, pk_mul, nI_add, Option.toList, List.cons_append, List.nil_append]
  unfold wrX
  by_cases hb : kWA (kx (xM n g) i) = true
  · simp only [hb, e_X10_writes_14, e_X10_writes_21, e_X10_writes_26, bI_t o.ok, e1, bO_some, bF_I, bF_D, bF_C, bC_v, pk_mul, nI_add, Option.toList, List.cons_append, List.nil_append, zI_0, if_true, if_false, eq_self, not_true_eq_false, not_false_eq_true, reduceCtorEq]
    rfl
  · rw [Bool.not_eq_true] at hb
    simp only [hb, e_X10_writes_25, e_X10_writes_26, bO_some, bF_I, bF_D, bF_C, bC_v, pk_mul, nI_add, Option.toList, List.cons_append, List.nil_append, zI_0, if_true, if_false, eq_self, not_true_eq_false, not_false_eq_true, reduceCtorEq]
theorem c_X10_through (o : FO h p fs qf n g) (hv : VK n (xM n g)) (hi : i < n) (x : Int32) : Call sc n_X10_through [aD p, aI (nI i), aI x] h = some (.inl (some (aI (thX (xM n g) i x))), h) := by
  simp only [c0_X10_through, e_X10_through_0, e_X10_through_5, e_X10_through_11, bI_t o.ok, c_X10_reads o hv hi, c_X10_writes o hv hi, bO_some, bF_I, bF_D, bF_C, bC_v, pk_mul, nI_add, Option.toList, List.cons_append, List.nil_append]
  rfl
end
