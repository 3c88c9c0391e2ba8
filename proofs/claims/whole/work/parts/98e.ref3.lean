/-! PURE 52: the reference: questions about source and form -/
def xS (n : Nat) (s : Nat → Int32) : Nat → Nat → Int32 := fun i w => if i < n ∧ w < 4 then s (4 * i + w) else 0
theorem xS_at {n : Nat} {s : Nat → Int32} {i w : Nat} (hi : i < n) (hw : w < 4) : s (4 * i + w) = xS n s i w := by
  unfold xS
  rw [if_pos ⟨hi, hw⟩]
/-- a number from 0 to n - 1 -/
abbrev IR (n : Nat) (x : Int32) : Prop := ¬ x < 0 ∧ ¬ nI n ≤ x
theorem IR_nI {n i : Nat} (hi : i < 2 ^ 31) (hn : n < 2 ^ 31) : IR n (nI i) ↔ i < n := by
  have := has_nI (m := i) (n := n) hi hn
  rw [decide_eq_decide] at this
  exact this
theorem inR {n : Nat} (hn : n + 1 < 2 ^ 30) (y : Int32) : decide (¬ y < nI 0 ∧ ¬ nI n < y) = decide (IR (n + 1) y) := by
  have := has_in hn y
  rw [pk_sub (show 1 ≤ n + 1 by omega)] at this
  exact this
def cdIn (sn : Nat) (x y : Int32) : Nat := if IR sn x then (if IR 4 y then 0 else 2) else 1
def anIn (S : Nat → Nat → Int32) (x y : Int32) : Int32 := S x.toNatClampNeg y.toNatClampNeg
def cdEn (n : Nat) (x y : Int32) : Nat := if IR n x then (if IR 7 y then 0 else 2) else 1
def enX (n : Nat) (X : Nat → Nat → Int32) (i w : Nat) : Int32 := if w < 4 then X i w else if w = 4 then zI (slX X i) else if w = 5 then X i 4 else nI (toX n X (nI i))
def cdLi (n : Nat) (X : Nat → Nat → Int32) (x : Int32) : Nat := if IR (n + 1) x then (if slX X x.toNatClampNeg = true then 2 else 0) else 1
def cdId (n : Nat) (x y : Int32) : Nat := if IR n x ∧ IR n y then 0 else 1
theorem sl_end {n : Nat} {X : Nat → Nat → Int32} (hb : VB n X) : slX X n = false := by
  unfold slX
  by_cases h0 : 0 < n
  · cases hk : kBr (kx X (n - 1))
    · rw [Bool.and_false]
    · have := hb (n - 1) (by omega) hk
      omega
  · rw [decide_eq_false h0, Bool.false_and]
section
variable {sc : SC} {h : AH} {φ : Nat → Int32} {ρ : Nat → Nat → Int32} {sn n i w : Nat} {x y : Int32}
theorem r_instruction (h2 : φ 2 = nI sn) (hn : sn ≤ 30) (x y : Int32) : ∃ b, Call sc n_X10_instruction [aD 51, aI x, aI y] (rh h φ ρ) = some (.inl (some (aI b)), rh h (upd φ 0 (nI (cdIn sn x y))) ρ) ∧ (cdIn sn x y = 0 → b = anIn (xS sn (ρ 52)) x y) := by
  unfold cdIn anIn
  by_cases h1 : IR sn x
  · rw [if_pos h1]
    obtain ⟨i, hi, rfl⟩ := has_ex (by omega) h1
    by_cases h3 : IR 4 y
    · rw [if_pos h3]
      obtain ⟨w, hw, rfl⟩ := has_ex (by omega) h3
      refine ⟨xS sn (ρ 52) i w, ?_, fun _ => ?_⟩
      · simp only [c0_X10_instruction, e_X10_instruction_0, e_X10_instruction_7, e_X10_instruction_12, e_X10_instruction_15, e_X10_instruction_19, e_X10_instruction_25, e_X10_instruction_28, e_X10_instruction_32, e_X10_instruction_33, e_X10_instruction_36, e_X10_instruction_40, e_X10_instruction_43, e_X10_instruction_47, e_X10_instruction_53, e_X10_instruction_56, e_X10_instruction_57, rf_0, rf_1, rf_2, rf_3, rf_4, rf_5, rf_6, rf_7, rf_8, rf_9, rf_10, rf_11, rf_12, rf_13, rf_14, rf_15, rf_16, rf_17, rf_18, rf_19, rf_20, rf_21, rf_22, rf_23, rf_24, rf_25, rf_26, rf_27, rf_28, rf_29, rf_30, rf_31, rf_32, rf_33, rf_34, rp_0, rp_2, rp_5, rp_7, rp_8, rp_9, rp_10, rp_12, rp_16, rp_20, rp_21, rp_22, rp_25, rp_27, rp_30, rp_32, bI_r, bO_some, bF_I, bF_D, bF_C, bC_v, pk_mul, nI_add, Option.toList, List.cons_append, List.nil_append, upd_eq, upr_eq, Nat.reduceEqDiff, reduceIte, h2, c_isIn, has_in (show sn < 2 ^ 30 by omega), decide_eq_true h1, inR (show 3 + 1 < 2 ^ 30 by omega), decide_eq_true h3, zI_0, if_true, if_false, eq_self, not_true_eq_false, not_false_eq_true, reduceCtorEq, rl_53 (show 4 * i + w < 120 by omega), xS_at (s := ρ 52) hi hw, show (nI 0 = 0) = True from eq_true (by decide)]
      · rw [nI_clamp (by omega), nI_clamp (by omega)]
    · rw [if_neg h3]
      refine ⟨nI 0, ?_, fun z => by cases z⟩
      simp only [c0_X10_instruction, e_X10_instruction_0, e_X10_instruction_7, e_X10_instruction_12, e_X10_instruction_15, e_X10_instruction_19, e_X10_instruction_25, e_X10_instruction_28, e_X10_instruction_32, e_X10_instruction_33, e_X10_instruction_36, e_X10_instruction_40, e_X10_instruction_43, e_X10_instruction_47, e_X10_instruction_53, e_X10_instruction_56, e_X10_instruction_57, rf_0, rf_1, rf_2, rf_3, rf_4, rf_5, rf_6, rf_7, rf_8, rf_9, rf_10, rf_11, rf_12, rf_13, rf_14, rf_15, rf_16, rf_17, rf_18, rf_19, rf_20, rf_21, rf_22, rf_23, rf_24, rf_25, rf_26, rf_27, rf_28, rf_29, rf_30, rf_31, rf_32, rf_33, rf_34, rp_0, rp_2, rp_5, rp_7, rp_8, rp_9, rp_10, rp_12, rp_16, rp_20, rp_21, rp_22, rp_25, rp_27, rp_30, rp_32, bI_r, bO_some, bF_I, bF_D, bF_C, bC_v, pk_mul, nI_add, Option.toList, List.cons_append, List.nil_append, upd_eq, upr_eq, Nat.reduceEqDiff, reduceIte, h2, c_isIn, has_in (show sn < 2 ^ 30 by omega), decide_eq_true h1, inR (show 3 + 1 < 2 ^ 30 by omega), decide_eq_false h3, zI_0, if_true, if_false, eq_self, not_true_eq_false, not_false_eq_true, reduceCtorEq, show (nI 2 = 0) = False from eq_false (by decide)]
  · rw [if_neg h1]
    refine ⟨nI 0, ?_, fun z => by cases z⟩
    simp only [c0_X10_instruction, e_X10_instruction_0, e_X10_instruction_7, e_X10_instruction_12, e_X10_instruction_15, e_X10_instruction_19, e_X10_instruction_25, e_X10_instruction_28, e_X10_instruction_32, e_X10_instruction_33, e_X10_instruction_36, e_X10_instruction_40, e_X10_instruction_43, e_X10_instruction_47, e_X10_instruction_53, e_X10_instruction_56, e_X10_instruction_57, rf_0, rf_1, rf_2, rf_3, rf_4, rf_5, rf_6, rf_7, rf_8, rf_9, rf_10, rf_11, rf_12, rf_13, rf_14, rf_15, rf_16, rf_17, rf_18, rf_19, rf_20, rf_21, rf_22, rf_23, rf_24, rf_25, rf_26, rf_27, rf_28, rf_29, rf_30, rf_31, rf_32, rf_33, rf_34, rp_0, rp_2, rp_5, rp_7, rp_8, rp_9, rp_10, rp_12, rp_16, rp_20, rp_21, rp_22, rp_25, rp_27, rp_30, rp_32, bI_r, bO_some, bF_I, bF_D, bF_C, bC_v, pk_mul, nI_add, Option.toList, List.cons_append, List.nil_append, upd_eq, upr_eq, Nat.reduceEqDiff, reduceIte, h2, c_isIn, has_in (show sn < 2 ^ 30 by omega), decide_eq_false h1, zI_0, if_true, if_false, eq_self, not_true_eq_false, not_false_eq_true, reduceCtorEq, show (nI 1 = 0) = False from eq_false (by decide)]
theorem r_entries (h0 : ρ 53 0 = nI n) (hn : n ≤ 60) : Call sc n_X10_entries [aD 51] (rh h φ ρ) = some (.inl (some (aI (nI n))), rh h (upd φ 0 (nI 0)) ρ) := by
  have e1 := fun φ => c_entryMany (sc := sc) (FO_r (h := h) (φ := φ) h0 hn)
  simp only [c0_X10_entries, e_X10_entries_0, e_X10_entries_5, e_X10_entries_9, rf_0, rf_1, rf_2, rf_3, rf_4, rf_5, rf_6, rf_7, rf_8, rf_9, rf_10, rf_11, rf_12, rf_13, rf_14, rf_15, rf_16, rf_17, rf_18, rf_19, rf_20, rf_21, rf_22, rf_23, rf_24, rf_25, rf_26, rf_27, rf_28, rf_29, rf_30, rf_31, rf_32, rf_33, rf_34, rp_0, rp_2, rp_5, rp_7, rp_8, rp_9, rp_10, rp_12, rp_16, rp_20, rp_21, rp_22, rp_25, rp_27, rp_30, rp_32, bI_r, bO_some, bF_I, bF_D, bF_C, bC_v, pk_mul, nI_add, Option.toList, List.cons_append, List.nil_append, upd_eq, upr_eq, Nat.reduceEqDiff, reduceIte, e1]
theorem r_entry (h0 : ρ 53 0 = nI n) (hn : n ≤ 60) (hw : WF n (xM n (ρ 53))) (x y : Int32) : ∃ b, Call sc n_X10_entry [aD 51, aI x, aI y] (rh h φ ρ) = some (.inl (some (aI b)), rh h (upd φ 0 (nI (cdEn n x y))) ρ) ∧ (cdEn n x y = 0 → b = enX n (xM n (ρ 53)) x.toNatClampNeg y.toNatClampNeg) := by
  have e1 := fun φ => c_isEntry (sc := sc) (FO_r (h := h) (φ := φ) h0 hn) x
  unfold cdEn
  by_cases h1 : IR n x
  · rw [if_pos h1]
    obtain ⟨i, hi, rfl⟩ := has_ex (by omega) h1
    by_cases h3 : IR 7 y
    · rw [if_pos h3]
      obtain ⟨w, hw7, rfl⟩ := has_ex (by omega) h3
      have e2 := fun w (hw : w < 5) => c_at (sc := sc) (FO_r (h := h) (φ := upd φ 0 (nI 0)) h0 hn) hi hw
      have e3 := c_X10_isSlot (sc := sc) (FO_r (h := h) (φ := upd φ 0 (nI 0)) h0 hn) hw.1 (show i ≤ n by omega)
      have e4 := c_X10_targeted (sc := sc) (FO_r (h := h) (φ := upd φ 0 (nI 0)) h0 hn) hw.1 (nI i)
      refine ⟨enX n (xM n (ρ 53)) i w, ?_, fun _ => ?_⟩
      · unfold enX
        simp only [c0_X10_entry, e_X10_entry_0, e_X10_entry_6, e_X10_entry_13, e_X10_entry_20, e_X10_entry_27, e_X10_entry_28, e_X10_entry_31, e_X10_entry_35, rf_0, rf_1, rf_2, rf_3, rf_4, rf_5, rf_6, rf_7, rf_8, rf_9, rf_10, rf_11, rf_12, rf_13, rf_14, rf_15, rf_16, rf_17, rf_18, rf_19, rf_20, rf_21, rf_22, rf_23, rf_24, rf_25, rf_26, rf_27, rf_28, rf_29, rf_30, rf_31, rf_32, rf_33, rf_34, rp_0, rp_2, rp_5, rp_7, rp_8, rp_9, rp_10, rp_12, rp_16, rp_20, rp_21, rp_22, rp_25, rp_27, rp_30, rp_32, bI_r, bO_some, bF_I, bF_D, bF_C, bC_v, pk_mul, nI_add, Option.toList, List.cons_append, List.nil_append, upd_eq, upr_eq, Nat.reduceEqDiff, reduceIte, e1, c_isIn, decide_eq_true h1, inR (show 6 + 1 < 2 ^ 30 by omega), decide_eq_true h3, zI_0, if_true, if_false, eq_self, not_true_eq_false, not_false_eq_true, reduceCtorEq, show (nI 0 = 0) = True from eq_true (by decide)]
        by_cases h4 : w < 4
        · rw [if_pos h4, e_X10_entry_40, if_neg (nI_ge h4 (by omega))]
          simp only [e_X10_entry_45, e_X10_entry_51, e_X10_entry_94, rf_0, rf_1, rf_2, rf_3, rf_4, rf_5, rf_6, rf_7, rf_8, rf_9, rf_10, rf_11, rf_12, rf_13, rf_14, rf_15, rf_16, rf_17, rf_18, rf_19, rf_20, rf_21, rf_22, rf_23, rf_24, rf_25, rf_26, rf_27, rf_28, rf_29, rf_30, rf_31, rf_32, rf_33, rf_34, rp_0, rp_2, rp_5, rp_7, rp_8, rp_9, rp_10, rp_12, rp_16, rp_20, rp_21, rp_22, rp_25, rp_27, rp_30, rp_32, bI_r, bO_some, bF_I, bF_D, bF_C, bC_v, pk_mul, nI_add, Option.toList, List.cons_append, List.nil_append, upd_eq, upr_eq, Nat.reduceEqDiff, reduceIte, e2 w (by omega)]
        · rw [if_neg h4, e_X10_entry_40, if_pos (nI_le (by omega) (by omega)), e_X10_entry_54]
          by_cases h5 : w = 4
          · subst h5
            rw [if_pos rfl, if_neg (fun z => z rfl)]
            simp only [e_X10_entry_59, e_X10_entry_64, rf_0, rf_1, rf_2, rf_3, rf_4, rf_5, rf_6, rf_7, rf_8, rf_9, rf_10, rf_11, rf_12, rf_13, rf_14, rf_15, rf_16, rf_17, rf_18, rf_19, rf_20, rf_21, rf_22, rf_23, rf_24, rf_25, rf_26, rf_27, rf_28, rf_29, rf_30, rf_31, rf_32, rf_33, rf_34, rp_0, rp_2, rp_5, rp_7, rp_8, rp_9, rp_10, rp_12, rp_16, rp_20, rp_21, rp_22, rp_25, rp_27, rp_30, rp_32, bI_r, bO_some, bF_I, bF_D, bF_C, bC_v, pk_mul, nI_add, Option.toList, List.cons_append, List.nil_append, upd_eq, upr_eq, Nat.reduceEqDiff, reduceIte, e3]
            cases hs : slX (xM n (ρ 53)) i
            · simp only [zI_0, if_true, if_false, eq_self, not_true_eq_false, not_false_eq_true, e_X10_entry_71, e_X10_entry_94]
              rfl
            · simp only [zI_0, if_true, if_false, eq_self, not_true_eq_false, not_false_eq_true, reduceCtorEq, e_X10_entry_67, e_X10_entry_94]
              rfl
          · rw [if_neg h5, if_pos (fun z => h5 (nI_inj (by omega) (by omega) z)), e_X10_entry_75]
            by_cases h6 : w = 5
            · subst h6
              rw [if_pos rfl, if_neg (fun z => z rfl)]
              simp only [e_X10_entry_80, e_X10_entry_86, e_X10_entry_94, rf_0, rf_1, rf_2, rf_3, rf_4, rf_5, rf_6, rf_7, rf_8, rf_9, rf_10, rf_11, rf_12, rf_13, rf_14, rf_15, rf_16, rf_17, rf_18, rf_19, rf_20, rf_21, rf_22, rf_23, rf_24, rf_25, rf_26, rf_27, rf_28, rf_29, rf_30, rf_31, rf_32, rf_33, rf_34, rp_0, rp_2, rp_5, rp_7, rp_8, rp_9, rp_10, rp_12, rp_16, rp_20, rp_21, rp_22, rp_25, rp_27, rp_30, rp_32, bI_r, bO_some, bF_I, bF_D, bF_C, bC_v, pk_mul, nI_add, Option.toList, List.cons_append, List.nil_append, upd_eq, upr_eq, Nat.reduceEqDiff, reduceIte, e2 4 (by omega)]
            · rw [if_neg h6, if_pos (fun z => h6 (nI_inj (by omega) (by omega) z))]
              simp only [e_X10_entry_89, e_X10_entry_94, rf_0, rf_1, rf_2, rf_3, rf_4, rf_5, rf_6, rf_7, rf_8, rf_9, rf_10, rf_11, rf_12, rf_13, rf_14, rf_15, rf_16, rf_17, rf_18, rf_19, rf_20, rf_21, rf_22, rf_23, rf_24, rf_25, rf_26, rf_27, rf_28, rf_29, rf_30, rf_31, rf_32, rf_33, rf_34, rp_0, rp_2, rp_5, rp_7, rp_8, rp_9, rp_10, rp_12, rp_16, rp_20, rp_21, rp_22, rp_25, rp_27, rp_30, rp_32, bI_r, bO_some, bF_I, bF_D, bF_C, bC_v, pk_mul, nI_add, Option.toList, List.cons_append, List.nil_append, upd_eq, upr_eq, Nat.reduceEqDiff, reduceIte, e4]
      · rw [nI_clamp (by omega), nI_clamp (by omega)]
    · rw [if_neg h3]
      refine ⟨nI 0, ?_, fun z => by cases z⟩
      simp only [c0_X10_entry, e_X10_entry_0, e_X10_entry_6, e_X10_entry_9, e_X10_entry_13, e_X10_entry_20, e_X10_entry_23, e_X10_entry_27, e_X10_entry_28, e_X10_entry_31, e_X10_entry_35, e_X10_entry_38, e_X10_entry_40, e_X10_entry_45, e_X10_entry_51, e_X10_entry_54, e_X10_entry_59, e_X10_entry_64, e_X10_entry_67, e_X10_entry_71, e_X10_entry_75, e_X10_entry_80, e_X10_entry_86, e_X10_entry_89, e_X10_entry_94, rf_0, rf_1, rf_2, rf_3, rf_4, rf_5, rf_6, rf_7, rf_8, rf_9, rf_10, rf_11, rf_12, rf_13, rf_14, rf_15, rf_16, rf_17, rf_18, rf_19, rf_20, rf_21, rf_22, rf_23, rf_24, rf_25, rf_26, rf_27, rf_28, rf_29, rf_30, rf_31, rf_32, rf_33, rf_34, rp_0, rp_2, rp_5, rp_7, rp_8, rp_9, rp_10, rp_12, rp_16, rp_20, rp_21, rp_22, rp_25, rp_27, rp_30, rp_32, bI_r, bO_some, bF_I, bF_D, bF_C, bC_v, pk_mul, nI_add, Option.toList, List.cons_append, List.nil_append, upd_eq, upr_eq, Nat.reduceEqDiff, reduceIte, e1, c_isIn, decide_eq_true h1, inR (show 6 + 1 < 2 ^ 30 by omega), decide_eq_false h3, zI_0, if_true, if_false, eq_self, not_true_eq_false, not_false_eq_true, reduceCtorEq, show (nI 2 = 0) = False from eq_false (by decide)]
  · rw [if_neg h1]
    refine ⟨nI 0, ?_, fun z => by cases z⟩
    simp only [c0_X10_entry, e_X10_entry_0, e_X10_entry_6, e_X10_entry_9, e_X10_entry_13, e_X10_entry_20, e_X10_entry_23, e_X10_entry_27, e_X10_entry_28, e_X10_entry_31, e_X10_entry_35, e_X10_entry_38, e_X10_entry_40, e_X10_entry_45, e_X10_entry_51, e_X10_entry_54, e_X10_entry_59, e_X10_entry_64, e_X10_entry_67, e_X10_entry_71, e_X10_entry_75, e_X10_entry_80, e_X10_entry_86, e_X10_entry_89, e_X10_entry_94, rf_0, rf_1, rf_2, rf_3, rf_4, rf_5, rf_6, rf_7, rf_8, rf_9, rf_10, rf_11, rf_12, rf_13, rf_14, rf_15, rf_16, rf_17, rf_18, rf_19, rf_20, rf_21, rf_22, rf_23, rf_24, rf_25, rf_26, rf_27, rf_28, rf_29, rf_30, rf_31, rf_32, rf_33, rf_34, rp_0, rp_2, rp_5, rp_7, rp_8, rp_9, rp_10, rp_12, rp_16, rp_20, rp_21, rp_22, rp_25, rp_27, rp_30, rp_32, bI_r, bO_some, bF_I, bF_D, bF_C, bC_v, pk_mul, nI_add, Option.toList, List.cons_append, List.nil_append, upd_eq, upr_eq, Nat.reduceEqDiff, reduceIte, e1, decide_eq_false h1, zI_0, if_true, if_false, eq_self, not_true_eq_false, not_false_eq_true, reduceCtorEq, show (nI 1 = 0) = False from eq_false (by decide)]
theorem r_live (h0 : ρ 53 0 = nI n) (hn : n ≤ 60) (hw : WF n (xM n (ρ 53))) (x : Int32) : ∃ b l', Call sc n_X10_live [aD 51, aI x] (rh h φ ρ) = some (.inl (some (aI b)), rh h (upd φ 0 (nI (cdLi n (xM n (ρ 53)) x))) (upr ρ 58 l')) ∧ (cdLi n (xM n (ρ 53)) x = 0 → b = lvAt (xM n (ρ 53)) n x.toNatClampNeg) := by
  have e0 := fun φ => c_entryMany (sc := sc) (FO_r (h := h) (φ := φ) h0 hn)
  have e1 := fun φ => c_isEntry (sc := sc) (FO_r (h := h) (φ := φ) h0 hn) x
  have e5 : decide (¬ x < nI 0 ∧ ¬ nI n < x) = decide (IR (n + 1) x) := inR (by omega) x
  unfold cdLi
  by_cases h1 : IR (n + 1) x
  · rw [if_pos h1]
    obtain ⟨i, hi, rfl⟩ := has_ex (by omega) h1
    have e3 := fun φ => c_X10_isSlot (sc := sc) (FO_r (h := h) (φ := φ) h0 hn) hw.1 (show i ≤ n by omega)
    rw [nI_clamp (show i < 2 ^ 31 by omega)]
    have hfin : slX (xM n (ρ 53)) i = false → ∃ b l', Run sc n_X10_live 37 [aD 51, aI (nI i)] none [aD 51] (rh h φ ρ) = some (.inl (some (aI b)), rh h (upd φ 0 (nI 0)) (upr ρ 58 l')) ∧ (0 = 0 → b = lvAt (xM n (ρ 53)) n i) := by
      intro _
      obtain ⟨l', q1, q2⟩ := c_findLives (sc := sc) (FO_r (h := h) (φ := upd φ 0 (nI 0)) h0 hn) (LO_r (h := h) (φ := upd φ 0 (nI 0)) (ρ := ρ)) (by omega) (by omega) hw.1 hw.2.1 hw.2.2.1
      rw [lset_r] at q1
      refine ⟨lvAt (xM n (ρ 53)) n i, l', ?_, fun _ => rfl⟩
      simp only [e_X10_live_37, e_X10_live_38, e_X10_live_41, e_X10_live_45, e_X10_live_50, e_X10_live_54, e_X10_live_58, e_X10_live_60, rf_0, rf_1, rf_2, rf_3, rf_4, rf_5, rf_6, rf_7, rf_8, rf_9, rf_10, rf_11, rf_12, rf_13, rf_14, rf_15, rf_16, rf_17, rf_18, rf_19, rf_20, rf_21, rf_22, rf_23, rf_24, rf_25, rf_26, rf_27, rf_28, rf_29, rf_30, rf_31, rf_32, rf_33, rf_34, rp_0, rp_2, rp_5, rp_7, rp_8, rp_9, rp_10, rp_12, rp_16, rp_20, rp_21, rp_22, rp_25, rp_27, rp_30, rp_32, bI_r, bO_some, bF_I, bF_D, bF_C, bC_v, pk_mul, nI_add, Option.toList, List.cons_append, List.nil_append, upd_eq, upr_eq, Nat.reduceEqDiff, reduceIte, q1, rl_59 (show i < 62 by omega), q2 i (by omega), show (nI 0 = 0) = True from eq_true (by decide), if_true]
    cases hs : slX (xM n (ρ 53)) i
    · obtain ⟨b, l', q1, q2⟩ := hfin hs
      refine ⟨b, l', ?_, fun _ => q2 rfl⟩
      rw [if_neg (by decide)]
      refine Eq.trans ?_ q1
      by_cases hin : IR n (nI i)
      · simp only [c0_X10_live, e_X10_live_0, e_X10_live_7, e_X10_live_10, e_X10_live_17, e_X10_live_22, e_X10_live_25, e_X10_live_30, rf_0, rf_1, rf_2, rf_3, rf_4, rf_5, rf_6, rf_7, rf_8, rf_9, rf_10, rf_11, rf_12, rf_13, rf_14, rf_15, rf_16, rf_17, rf_18, rf_19, rf_20, rf_21, rf_22, rf_23, rf_24, rf_25, rf_26, rf_27, rf_28, rf_29, rf_30, rf_31, rf_32, rf_33, rf_34, rp_0, rp_2, rp_5, rp_7, rp_8, rp_9, rp_10, rp_12, rp_16, rp_20, rp_21, rp_22, rp_25, rp_27, rp_30, rp_32, bI_r, bO_some, bF_I, bF_D, bF_C, bC_v, pk_mul, nI_add, Option.toList, List.cons_append, List.nil_append, upd_eq, upr_eq, Nat.reduceEqDiff, reduceIte, e0, e1, c_isIn, e5, decide_eq_true h1, decide_eq_true hin, e3, hs, zI_0, if_true, if_false, eq_self, not_true_eq_false, not_false_eq_true, reduceCtorEq]
      · simp only [c0_X10_live, e_X10_live_0, e_X10_live_7, e_X10_live_10, e_X10_live_17, e_X10_live_22, rf_0, rf_1, rf_2, rf_3, rf_4, rf_5, rf_6, rf_7, rf_8, rf_9, rf_10, rf_11, rf_12, rf_13, rf_14, rf_15, rf_16, rf_17, rf_18, rf_19, rf_20, rf_21, rf_22, rf_23, rf_24, rf_25, rf_26, rf_27, rf_28, rf_29, rf_30, rf_31, rf_32, rf_33, rf_34, rp_0, rp_2, rp_5, rp_7, rp_8, rp_9, rp_10, rp_12, rp_16, rp_20, rp_21, rp_22, rp_25, rp_27, rp_30, rp_32, bI_r, bO_some, bF_I, bF_D, bF_C, bC_v, pk_mul, nI_add, Option.toList, List.cons_append, List.nil_append, upd_eq, upr_eq, Nat.reduceEqDiff, reduceIte, e0, e1, c_isIn, e5, decide_eq_true h1, decide_eq_false hin, zI_0, if_true, if_false, eq_self, not_true_eq_false, not_false_eq_true, reduceCtorEq]
    · have hin : i < n := by
        refine Classical.byContradiction fun z => ?_
        have : i = n := by omega
        subst this
        rw [sl_end hw.2.2.1] at hs
        cases hs
      have hin2 : IR n (nI i) := (IR_nI (by omega) (by omega)).mpr hin
      refine ⟨nI 0, ρ 58, ?_, fun z => by cases z⟩
      rw [upr_self, if_pos rfl]
      simp only [c0_X10_live, e_X10_live_0, e_X10_live_7, e_X10_live_10, e_X10_live_13, e_X10_live_17, e_X10_live_22, e_X10_live_25, e_X10_live_30, e_X10_live_33, e_X10_live_37, e_X10_live_38, e_X10_live_41, e_X10_live_45, e_X10_live_48, e_X10_live_50, e_X10_live_54, e_X10_live_58, e_X10_live_60, rf_0, rf_1, rf_2, rf_3, rf_4, rf_5, rf_6, rf_7, rf_8, rf_9, rf_10, rf_11, rf_12, rf_13, rf_14, rf_15, rf_16, rf_17, rf_18, rf_19, rf_20, rf_21, rf_22, rf_23, rf_24, rf_25, rf_26, rf_27, rf_28, rf_29, rf_30, rf_31, rf_32, rf_33, rf_34, rp_0, rp_2, rp_5, rp_7, rp_8, rp_9, rp_10, rp_12, rp_16, rp_20, rp_21, rp_22, rp_25, rp_27, rp_30, rp_32, bI_r, bO_some, bF_I, bF_D, bF_C, bC_v, pk_mul, nI_add, Option.toList, List.cons_append, List.nil_append, upd_eq, upr_eq, Nat.reduceEqDiff, reduceIte, e0, e1, c_isIn, e5, decide_eq_true h1, decide_eq_true hin2, e3, hs, zI_0, if_true, if_false, eq_self, not_true_eq_false, not_false_eq_true, reduceCtorEq, show (nI 2 = 0) = False from eq_false (by decide)]
  · rw [if_neg h1]
    refine ⟨nI 0, ρ 58, ?_, fun z => by cases z⟩
    rw [upr_self]
    simp only [c0_X10_live, e_X10_live_0, e_X10_live_7, e_X10_live_10, e_X10_live_13, e_X10_live_17, e_X10_live_22, e_X10_live_25, e_X10_live_30, e_X10_live_33, e_X10_live_37, e_X10_live_38, e_X10_live_41, e_X10_live_45, e_X10_live_48, e_X10_live_50, e_X10_live_54, e_X10_live_58, e_X10_live_60, rf_0, rf_1, rf_2, rf_3, rf_4, rf_5, rf_6, rf_7, rf_8, rf_9, rf_10, rf_11, rf_12, rf_13, rf_14, rf_15, rf_16, rf_17, rf_18, rf_19, rf_20, rf_21, rf_22, rf_23, rf_24, rf_25, rf_26, rf_27, rf_28, rf_29, rf_30, rf_31, rf_32, rf_33, rf_34, rp_0, rp_2, rp_5, rp_7, rp_8, rp_9, rp_10, rp_12, rp_16, rp_20, rp_21, rp_22, rp_25, rp_27, rp_30, rp_32, bI_r, bO_some, bF_I, bF_D, bF_C, bC_v, pk_mul, nI_add, Option.toList, List.cons_append, List.nil_append, upd_eq, upr_eq, Nat.reduceEqDiff, reduceIte, e0, e1, c_isIn, e5, decide_eq_false h1, zI_0, if_true, if_false, eq_self, not_true_eq_false, not_false_eq_true, reduceCtorEq, show (nI 1 = 0) = False from eq_false (by decide)]
theorem r_isIndependent (h0 : ρ 53 0 = nI n) (hn : n ≤ 60) (hw : WF n (xM n (ρ 53))) (x y : Int32) : ∃ b, Call sc n_X10_isIndependent [aD 51, aI x, aI y] (rh h φ ρ) = some (.inl (some (aI (zI b))), rh h (upd φ 0 (nI (cdId n x y))) ρ) ∧ (cdId n x y = 0 → b = indX (xM n (ρ 53)) x.toNatClampNeg y.toNatClampNeg) := by
  have e1 := fun φ x => c_isEntry (sc := sc) (FO_r (h := h) (φ := φ) h0 hn) x
  have b1 : ∀ b r, bI (retK (some FieldType.boolean) (zI b) = true) r = r := fun b r => bI_t (zI_ret b) r
  unfold cdId
  by_cases h1 : IR n x
  · by_cases h3 : IR n y
    · rw [if_pos ⟨h1, h3⟩]
      obtain ⟨i, hi, rfl⟩ := has_ex (by omega) h1
      obtain ⟨j, hj, rfl⟩ := has_ex (by omega) h3
      have e2 := c_X10_areIndependent (sc := sc) (FO_r (h := h) (φ := upd φ 0 (nI 0)) h0 hn) hw.1 hi hj
      refine ⟨indX (xM n (ρ 53)) i j, ?_, fun _ => ?_⟩
      · cases hs : indX (xM n (ρ 53)) i j
        · rw [hs] at e2
          simp only [c0_X10_isIndependent, e_X10_isIndependent_0, e_X10_isIndependent_6, e_X10_isIndependent_9, e_X10_isIndependent_14, e_X10_isIndependent_17, e_X10_isIndependent_21, e_X10_isIndependent_22, e_X10_isIndependent_25, e_X10_isIndependent_29, e_X10_isIndependent_32, e_X10_isIndependent_38, e_X10_isIndependent_41, e_X10_isIndependent_45, e_X10_isIndependent_46, rf_0, rf_1, rf_2, rf_3, rf_4, rf_5, rf_6, rf_7, rf_8, rf_9, rf_10, rf_11, rf_12, rf_13, rf_14, rf_15, rf_16, rf_17, rf_18, rf_19, rf_20, rf_21, rf_22, rf_23, rf_24, rf_25, rf_26, rf_27, rf_28, rf_29, rf_30, rf_31, rf_32, rf_33, rf_34, rp_0, rp_2, rp_5, rp_7, rp_8, rp_9, rp_10, rp_12, rp_16, rp_20, rp_21, rp_22, rp_25, rp_27, rp_30, rp_32, bI_r, bO_some, bF_I, bF_D, bF_C, bC_v, pk_mul, nI_add, Option.toList, List.cons_append, List.nil_append, upd_eq, upr_eq, Nat.reduceEqDiff, reduceIte, e1, decide_eq_true h1, decide_eq_true h3, e2, zI_0, if_true, if_false, eq_self, not_true_eq_false, not_false_eq_true, reduceCtorEq, show (nI 0 = 0) = True from eq_true (by decide)]
          exact b1 false _
        · rw [hs] at e2
          simp only [c0_X10_isIndependent, e_X10_isIndependent_0, e_X10_isIndependent_6, e_X10_isIndependent_9, e_X10_isIndependent_14, e_X10_isIndependent_17, e_X10_isIndependent_21, e_X10_isIndependent_22, e_X10_isIndependent_25, e_X10_isIndependent_29, e_X10_isIndependent_32, e_X10_isIndependent_38, e_X10_isIndependent_41, e_X10_isIndependent_45, e_X10_isIndependent_46, rf_0, rf_1, rf_2, rf_3, rf_4, rf_5, rf_6, rf_7, rf_8, rf_9, rf_10, rf_11, rf_12, rf_13, rf_14, rf_15, rf_16, rf_17, rf_18, rf_19, rf_20, rf_21, rf_22, rf_23, rf_24, rf_25, rf_26, rf_27, rf_28, rf_29, rf_30, rf_31, rf_32, rf_33, rf_34, rp_0, rp_2, rp_5, rp_7, rp_8, rp_9, rp_10, rp_12, rp_16, rp_20, rp_21, rp_22, rp_25, rp_27, rp_30, rp_32, bI_r, bO_some, bF_I, bF_D, bF_C, bC_v, pk_mul, nI_add, Option.toList, List.cons_append, List.nil_append, upd_eq, upr_eq, Nat.reduceEqDiff, reduceIte, e1, decide_eq_true h1, decide_eq_true h3, e2, zI_0, if_true, if_false, eq_self, not_true_eq_false, not_false_eq_true, reduceCtorEq, show (nI 0 = 0) = True from eq_true (by decide)]
          exact b1 true _
      · rw [nI_clamp (by omega), nI_clamp (by omega)]
    · rw [if_neg (fun z => h3 z.2)]
      refine ⟨false, ?_, fun z => by cases z⟩
      simp only [c0_X10_isIndependent, e_X10_isIndependent_0, e_X10_isIndependent_6, e_X10_isIndependent_9, e_X10_isIndependent_14, e_X10_isIndependent_17, e_X10_isIndependent_21, e_X10_isIndependent_22, e_X10_isIndependent_25, e_X10_isIndependent_29, e_X10_isIndependent_32, e_X10_isIndependent_38, e_X10_isIndependent_41, e_X10_isIndependent_45, e_X10_isIndependent_46, rf_0, rf_1, rf_2, rf_3, rf_4, rf_5, rf_6, rf_7, rf_8, rf_9, rf_10, rf_11, rf_12, rf_13, rf_14, rf_15, rf_16, rf_17, rf_18, rf_19, rf_20, rf_21, rf_22, rf_23, rf_24, rf_25, rf_26, rf_27, rf_28, rf_29, rf_30, rf_31, rf_32, rf_33, rf_34, rp_0, rp_2, rp_5, rp_7, rp_8, rp_9, rp_10, rp_12, rp_16, rp_20, rp_21, rp_22, rp_25, rp_27, rp_30, rp_32, bI_r, bO_some, bF_I, bF_D, bF_C, bC_v, pk_mul, nI_add, Option.toList, List.cons_append, List.nil_append, upd_eq, upr_eq, Nat.reduceEqDiff, reduceIte, e1, decide_eq_true h1, decide_eq_false h3, zI_0, if_true, if_false, eq_self, not_true_eq_false, not_false_eq_true, reduceCtorEq, show (nI 1 = 0) = False from eq_false (by decide)]
      exact b1 false _
  · rw [if_neg (fun z => h1 z.1)]
    refine ⟨false, ?_, fun z => by cases z⟩
    simp only [c0_X10_isIndependent, e_X10_isIndependent_0, e_X10_isIndependent_6, e_X10_isIndependent_9, e_X10_isIndependent_14, e_X10_isIndependent_17, e_X10_isIndependent_21, e_X10_isIndependent_22, e_X10_isIndependent_25, e_X10_isIndependent_29, e_X10_isIndependent_32, e_X10_isIndependent_38, e_X10_isIndependent_41, e_X10_isIndependent_45, e_X10_isIndependent_46, rf_0, rf_1, rf_2, rf_3, rf_4, rf_5, rf_6, rf_7, rf_8, rf_9, rf_10, rf_11, rf_12, rf_13, rf_14, rf_15, rf_16, rf_17, rf_18, rf_19, rf_20, rf_21, rf_22, rf_23, rf_24, rf_25, rf_26, rf_27, rf_28, rf_29, rf_30, rf_31, rf_32, rf_33, rf_34, rp_0, rp_2, rp_5, rp_7, rp_8, rp_9, rp_10, rp_12, rp_16, rp_20, rp_21, rp_22, rp_25, rp_27, rp_30, rp_32, bI_r, bO_some, bF_I, bF_D, bF_C, bC_v, pk_mul, nI_add, Option.toList, List.cons_append, List.nil_append, upd_eq, upr_eq, Nat.reduceEqDiff, reduceIte, e1, decide_eq_false h1, zI_0, if_true, if_false, eq_self, not_true_eq_false, not_false_eq_true, reduceCtorEq, show (nI 1 = 0) = False from eq_false (by decide)]
    exact b1 false _
end
