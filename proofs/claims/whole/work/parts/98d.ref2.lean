/-! PURE 51: the reference: rows copied, the past, save and restore -/
theorem cpy_0 (f g : Nat → Int32) (sp dp : Nat) : cpy f g sp dp 0 = g := by
  funext k
  rw [cpy_eq, if_neg (by omega)]
theorem cpy_s (f g : Nat → Int32) (sp dp i : Nat) : upd (cpy f g sp dp i) (dp + i) (f (sp + i)) = cpy f g sp dp (i + 1) := by
  funext k
  rw [upd_eq, cpy_eq, cpy_eq]
  by_cases h1 : k = dp + i
  · subst h1
    rw [if_pos rfl, if_pos (by omega)]
    congr 1
    omega
  · rw [if_neg h1]
    by_cases h2 : dp ≤ k ∧ k < dp + i
    · rw [if_pos h2, if_pos (by omega)]
    · rw [if_neg h2, if_neg (by omega)]
theorem cpy_s0 (f g : Nat → Int32) (sp i : Nat) : upd (cpy f g sp 0 i) i (f (sp + i)) = cpy f g sp 0 (i + 1) := by
  have := cpy_s f g sp 0 i
  rw [Nat.zero_add] at this
  exact this
theorem cpy_00 (f g : Nat → Int32) (i : Nat) : upd (cpy f g 0 0 i) i (f i) = cpy f g 0 0 (i + 1) := by
  have := cpy_s f g 0 0 i
  rw [Nat.zero_add] at this
  exact this
theorem cpy_ss (f g : Nat → Int32) (dp i : Nat) : upd (cpy f g 0 dp i) (dp + i) (f i) = cpy f g 0 dp (i + 1) := by
  have := cpy_s f g 0 dp i
  rw [Nat.zero_add] at this
  exact this
section
variable {sc : SC} {h : AH} {φ : Nat → Int32} {ρ : Nat → Nat → Int32} {m i q q' N : Nat} {P : Nat → Int32} {v1 : AV} {x : Int32}
theorem r_clear : Call sc n_X10_clear [aD 51] (rh h φ ρ) = some (.inl (some (aI (φ 2))), rh h (upd (upd φ 0 (nI 0)) 2 (nI 0)) ρ) := by
  simp only [c0_X10_clear, e_X10_clear_0, e_X10_clear_5, e_X10_clear_9, e_X10_clear_15, rf_0, rf_1, rf_2, rf_3, rf_4, rf_5, rf_6, rf_7, rf_8, rf_9, rf_10, rf_11, rf_12, rf_13, rf_14, rf_15, rf_16, rf_17, rf_18, rf_19, rf_20, rf_21, rf_22, rf_23, rf_24, rf_25, rf_26, rf_27, rf_28, rf_29, rf_30, rf_31, rf_32, rf_33, rf_34, rp_0, rp_2, rp_5, rp_7, rp_8, rp_9, rp_10, rp_12, rp_16, rp_20, rp_21, rp_22, rp_25, rp_27, rp_30, rp_32, bI_r, bO_some, bF_I, bF_D, bF_C, bC_v, pk_mul, nI_add, Option.toList, List.cons_append, List.nil_append, upd_eq, upr_eq, Nat.reduceEqDiff, reduceIte]
theorem r_instructions : Call sc n_X10_instructions [aD 51] (rh h φ ρ) = some (.inl (some (aI (φ 2))), rh h (upd φ 0 (nI 0)) ρ) := by
  simp only [c0_X10_instructions, e_X10_instructions_0, e_X10_instructions_5, e_X10_instructions_9, rf_0, rf_1, rf_2, rf_3, rf_4, rf_5, rf_6, rf_7, rf_8, rf_9, rf_10, rf_11, rf_12, rf_13, rf_14, rf_15, rf_16, rf_17, rf_18, rf_19, rf_20, rf_21, rf_22, rf_23, rf_24, rf_25, rf_26, rf_27, rf_28, rf_29, rf_30, rf_31, rf_32, rf_33, rf_34, rp_0, rp_2, rp_5, rp_7, rp_8, rp_9, rp_10, rp_12, rp_16, rp_20, rp_21, rp_22, rp_25, rp_27, rp_30, rp_32, bI_r, bO_some, bF_I, bF_D, bF_C, bC_v, pk_mul, nI_add, Option.toList, List.cons_append, List.nil_append, upd_eq, upr_eq, Nat.reduceEqDiff, reduceIte]
theorem l_rem1 : ∀ d i, i + d = 2107 → Run sc n_X10_remember 11 [aD 51, aI (nI i)] none [] (rh h φ (upr ρ 54 (cpy (ρ 54) (ρ 54) 301 0 i))) = Run sc n_X10_remember 40 [aD 51, aI (nI 2107)] none [] (rh h φ (upr ρ 54 (cpy (ρ 54) (ρ 54) 301 0 2107))) := by
  intro d
  induction d with
  | zero =>
    intro i hi
    have : i = 2107 := by omega
    subst this
    rw [e_X10_remember_11, if_pos (nI_le (Nat.le_refl _) (by omega))]
  | succ d ih =>
    intro i hi
    have h1 : ¬ nI 2107 ≤ nI i := nI_ge (by omega) (by omega)
    have h2 : cpy (ρ 54) (ρ 54) 301 0 i (301 + i) = ρ 54 (301 + i) := by
      rw [cpy_eq, if_neg (by omega)]
    rw [e_X10_remember_11, if_neg h1]
    simp only [e_X10_remember_18, e_X10_remember_22, e_X10_remember_27, e_X10_remember_33, e_X10_remember_34, rf_0, rf_1, rf_2, rf_3, rf_4, rf_5, rf_6, rf_7, rf_8, rf_9, rf_10, rf_11, rf_12, rf_13, rf_14, rf_15, rf_16, rf_17, rf_18, rf_19, rf_20, rf_21, rf_22, rf_23, rf_24, rf_25, rf_26, rf_27, rf_28, rf_29, rf_30, rf_31, rf_32, rf_33, rf_34, rp_0, rp_2, rp_5, rp_7, rp_8, rp_9, rp_10, rp_12, rp_16, rp_20, rp_21, rp_22, rp_25, rp_27, rp_30, rp_32, bI_r, bO_some, bF_I, bF_D, bF_C, bC_v, pk_mul, nI_add, Option.toList, List.cons_append, List.nil_append, upd_eq, upr_eq, Nat.reduceEqDiff, reduceIte, rl_55 (show 301 + i < 2408 by omega), rs_55 (show i < 2408 by omega), h2, cpy_s0, upr_upr]
    exact ih (i + 1) (by omega)
theorem l_rem2 (hm : m < 8) (h5 : φ 5 = nI m) : ∀ d i, i + d = 301 → Run sc n_X10_remember 52 [aD 51, aI (nI i)] none [] (rh h φ (upr ρ 54 (cpy (ρ 53) P 0 (301 * m) i))) = Run sc n_X10_remember 86 [aD 51, aI (nI 301)] none [] (rh h φ (upr ρ 54 (cpy (ρ 53) P 0 (301 * m) 301))) := by
  intro d
  induction d with
  | zero =>
    intro i hi
    have : i = 301 := by omega
    subst this
    rw [e_X10_remember_52, if_pos (nI_le (Nat.le_refl _) (by omega))]
  | succ d ih =>
    intro i hi
    have h1 : ¬ nI 301 ≤ nI i := nI_ge (by omega) (by omega)
    rw [e_X10_remember_52, if_neg h1]
    simp only [e_X10_remember_59, e_X10_remember_63, e_X10_remember_70, e_X10_remember_77, e_X10_remember_79, e_X10_remember_80, rf_0, rf_1, rf_2, rf_3, rf_4, rf_5, rf_6, rf_7, rf_8, rf_9, rf_10, rf_11, rf_12, rf_13, rf_14, rf_15, rf_16, rf_17, rf_18, rf_19, rf_20, rf_21, rf_22, rf_23, rf_24, rf_25, rf_26, rf_27, rf_28, rf_29, rf_30, rf_31, rf_32, rf_33, rf_34, rp_0, rp_2, rp_5, rp_7, rp_8, rp_9, rp_10, rp_12, rp_16, rp_20, rp_21, rp_22, rp_25, rp_27, rp_30, rp_32, bI_r, bO_some, bF_I, bF_D, bF_C, bC_v, pk_mul, nI_add, Option.toList, List.cons_append, List.nil_append, upd_eq, upr_eq, Nat.reduceEqDiff, reduceIte, h5, rl_54 (show i < 301 by omega), rs_55 (show 301 * m + i < 2408 by omega), cpy_ss, upr_upr]
    exact ih (i + 1) (by omega)
/-- the past with the form behind it -/
def psR (ρ : Nat → Nat → Int32) (m : Nat) : Nat → Int32 := if m = 8 then cpy (ρ 53) (cpy (ρ 54) (ρ 54) 301 0 2107) 0 2107 301 else cpy (ρ 53) (ρ 54) 0 (301 * m) 301
def psN (m : Nat) : Nat := if m = 8 then 8 else m + 1
theorem r_remember (hm : m ≤ 8) (h5 : φ 5 = nI m) : Call sc n_X10_remember [aD 51] (rh h φ ρ) = some (.inl none, rh h (upd φ 5 (nI (psN m))) (upr ρ 54 (psR ρ m))) := by
  unfold psR psN
  by_cases h8 : m = 8
  · subst h8
    have q1 := l_rem1 (sc := sc) (h := h) (φ := φ) (ρ := ρ) 2107 0 rfl
    rw [cpy_0, upr_self] at q1
    have q2 := l_rem2 (sc := sc) (h := h) (φ := upd φ 5 (nI 7)) (ρ := ρ) (P := cpy (ρ 54) (ρ 54) 301 0 2107) (m := 7) (by omega) rfl 301 0 rfl
    rw [cpy_0] at q2
    rw [if_pos rfl, if_pos rfl]
    simp only [c0_X10_remember, e_X10_remember_0, e_X10_remember_4, e_X10_remember_9, rf_0, rf_1, rf_2, rf_3, rf_4, rf_5, rf_6, rf_7, rf_8, rf_9, rf_10, rf_11, rf_12, rf_13, rf_14, rf_15, rf_16, rf_17, rf_18, rf_19, rf_20, rf_21, rf_22, rf_23, rf_24, rf_25, rf_26, rf_27, rf_28, rf_29, rf_30, rf_31, rf_32, rf_33, rf_34, rp_0, rp_2, rp_5, rp_7, rp_8, rp_9, rp_10, rp_12, rp_16, rp_20, rp_21, rp_22, rp_25, rp_27, rp_30, rp_32, bI_r, bO_some, bF_I, bF_D, bF_C, bC_v, pk_mul, nI_add, Option.toList, List.cons_append, List.nil_append, upd_eq, upr_eq, Nat.reduceEqDiff, reduceIte, h5, not_true_eq_false, if_false]
    rw [q1]
    simp only [e_X10_remember_40, e_X10_remember_45, e_X10_remember_50, rf_0, rf_1, rf_2, rf_3, rf_4, rf_5, rf_6, rf_7, rf_8, rf_9, rf_10, rf_11, rf_12, rf_13, rf_14, rf_15, rf_16, rf_17, rf_18, rf_19, rf_20, rf_21, rf_22, rf_23, rf_24, rf_25, rf_26, rf_27, rf_28, rf_29, rf_30, rf_31, rf_32, rf_33, rf_34, rp_0, rp_2, rp_5, rp_7, rp_8, rp_9, rp_10, rp_12, rp_16, rp_20, rp_21, rp_22, rp_25, rp_27, rp_30, rp_32, bI_r, bO_some, bF_I, bF_D, bF_C, bC_v, pk_mul, nI_add, Option.toList, List.cons_append, List.nil_append, upd_eq, upr_eq, Nat.reduceEqDiff, reduceIte, h5, pk_sub (show 1 ≤ 8 by omega), Nat.reduceSub]
    rw [q2]
    simp only [e_X10_remember_86, e_X10_remember_91, e_X10_remember_96, rf_0, rf_1, rf_2, rf_3, rf_4, rf_5, rf_6, rf_7, rf_8, rf_9, rf_10, rf_11, rf_12, rf_13, rf_14, rf_15, rf_16, rf_17, rf_18, rf_19, rf_20, rf_21, rf_22, rf_23, rf_24, rf_25, rf_26, rf_27, rf_28, rf_29, rf_30, rf_31, rf_32, rf_33, rf_34, rp_0, rp_2, rp_5, rp_7, rp_8, rp_9, rp_10, rp_12, rp_16, rp_20, rp_21, rp_22, rp_25, rp_27, rp_30, rp_32, bI_r, bO_some, bF_I, bF_D, bF_C, bC_v, pk_mul, nI_add, Option.toList, List.cons_append, List.nil_append, upd_eq, upr_eq, Nat.reduceEqDiff, reduceIte, upd_upd]
  · have q2 := l_rem2 (sc := sc) (h := h) (φ := φ) (ρ := ρ) (P := ρ 54) (show m < 8 by omega) h5 301 0 rfl
    rw [cpy_0, upr_self] at q2
    rw [if_neg h8, if_neg h8]
    have h9 : ¬ nI m = nI 8 := fun z => h8 (nI_inj (by omega) (by omega) z)
    simp only [c0_X10_remember, e_X10_remember_0, e_X10_remember_4, e_X10_remember_50, rf_0, rf_1, rf_2, rf_3, rf_4, rf_5, rf_6, rf_7, rf_8, rf_9, rf_10, rf_11, rf_12, rf_13, rf_14, rf_15, rf_16, rf_17, rf_18, rf_19, rf_20, rf_21, rf_22, rf_23, rf_24, rf_25, rf_26, rf_27, rf_28, rf_29, rf_30, rf_31, rf_32, rf_33, rf_34, rp_0, rp_2, rp_5, rp_7, rp_8, rp_9, rp_10, rp_12, rp_16, rp_20, rp_21, rp_22, rp_25, rp_27, rp_30, rp_32, bI_r, bO_some, bF_I, bF_D, bF_C, bC_v, pk_mul, nI_add, Option.toList, List.cons_append, List.nil_append, upd_eq, upr_eq, Nat.reduceEqDiff, reduceIte, h5, h9, not_false_eq_true, if_true]
    rw [q2]
    simp only [e_X10_remember_86, e_X10_remember_91, e_X10_remember_96, rf_0, rf_1, rf_2, rf_3, rf_4, rf_5, rf_6, rf_7, rf_8, rf_9, rf_10, rf_11, rf_12, rf_13, rf_14, rf_15, rf_16, rf_17, rf_18, rf_19, rf_20, rf_21, rf_22, rf_23, rf_24, rf_25, rf_26, rf_27, rf_28, rf_29, rf_30, rf_31, rf_32, rf_33, rf_34, rp_0, rp_2, rp_5, rp_7, rp_8, rp_9, rp_10, rp_12, rp_16, rp_20, rp_21, rp_22, rp_25, rp_27, rp_30, rp_32, bI_r, bO_some, bF_I, bF_D, bF_C, bC_v, pk_mul, nI_add, Option.toList, List.cons_append, List.nil_append, upd_eq, upr_eq, Nat.reduceEqDiff, reduceIte, h5]
theorem l_undo (hm : m < 8) (h5 : φ 5 = nI m) : ∀ d i, i + d = 301 → Run sc n_X10_undo 30 [aD 51, aI (nI i)] none [] (rh h φ (upr ρ 53 (cpy (ρ 54) (ρ 53) (301 * m) 0 i))) = Run sc n_X10_undo 64 [aD 51, aI (nI 301)] none [] (rh h φ (upr ρ 53 (cpy (ρ 54) (ρ 53) (301 * m) 0 301))) := by
  intro d
  induction d with
  | zero =>
    intro i hi
    have : i = 301 := by omega
    subst this
    rw [e_X10_undo_30, if_pos (nI_le (Nat.le_refl _) (by omega))]
  | succ d ih =>
    intro i hi
    have h1 : ¬ nI 301 ≤ nI i := nI_ge (by omega) (by omega)
    rw [e_X10_undo_30, if_neg h1]
    simp only [e_X10_undo_37, e_X10_undo_41, e_X10_undo_46, e_X10_undo_53, e_X10_undo_57, e_X10_undo_58, rf_0, rf_1, rf_2, rf_3, rf_4, rf_5, rf_6, rf_7, rf_8, rf_9, rf_10, rf_11, rf_12, rf_13, rf_14, rf_15, rf_16, rf_17, rf_18, rf_19, rf_20, rf_21, rf_22, rf_23, rf_24, rf_25, rf_26, rf_27, rf_28, rf_29, rf_30, rf_31, rf_32, rf_33, rf_34, rp_0, rp_2, rp_5, rp_7, rp_8, rp_9, rp_10, rp_12, rp_16, rp_20, rp_21, rp_22, rp_25, rp_27, rp_30, rp_32, bI_r, bO_some, bF_I, bF_D, bF_C, bC_v, pk_mul, nI_add, Option.toList, List.cons_append, List.nil_append, upd_eq, upr_eq, Nat.reduceEqDiff, reduceIte, h5, rl_55 (show 301 * m + i < 2408 by omega), rs_54 (show i < 301 by omega), cpy_s0, upr_upr]
    exact ih (i + 1) (by omega)
theorem r_undo (hm : m ≤ 8) (h5 : φ 5 = nI m) : Call sc n_X10_undo [aD 51] (rh h φ ρ) = if m = 0 then some (.inl (some (aI (nI 0))), rh h (upd φ 0 (nI 1)) ρ) else some (.inl (some (aI (nI (m - 1)))), rh h (upd (upd φ 0 (nI 0)) 5 (nI (m - 1))) (upr ρ 53 (cpy (ρ 54) (ρ 53) (301 * (m - 1)) 0 301))) := by
  by_cases h0 : m = 0
  · subst h0
    rw [if_pos rfl]
    simp only [c0_X10_undo, e_X10_undo_0, e_X10_undo_5, e_X10_undo_9, e_X10_undo_12, e_X10_undo_17, rf_0, rf_1, rf_2, rf_3, rf_4, rf_5, rf_6, rf_7, rf_8, rf_9, rf_10, rf_11, rf_12, rf_13, rf_14, rf_15, rf_16, rf_17, rf_18, rf_19, rf_20, rf_21, rf_22, rf_23, rf_24, rf_25, rf_26, rf_27, rf_28, rf_29, rf_30, rf_31, rf_32, rf_33, rf_34, rp_0, rp_2, rp_5, rp_7, rp_8, rp_9, rp_10, rp_12, rp_16, rp_20, rp_21, rp_22, rp_25, rp_27, rp_30, rp_32, bI_r, bO_some, bF_I, bF_D, bF_C, bC_v, pk_mul, nI_add, Option.toList, List.cons_append, List.nil_append, upd_eq, upr_eq, Nat.reduceEqDiff, reduceIte, h5, show (nI 0 = 0) = True from eq_true (by decide), not_true_eq_false, if_false, fail_r, upd_upd]
  · have q2 := l_undo (sc := sc) (h := h) (φ := upd (upd φ 0 (nI 0)) 5 (nI (m - 1))) (ρ := ρ) (show m - 1 < 8 by omega) rfl 301 0 rfl
    rw [cpy_0, upr_self] at q2
    have h9 : ¬ nI m = 0 := fun z => h0 (nI_inj (b := 0) (by omega) (by omega) z)
    rw [if_neg h0]
    simp only [c0_X10_undo, e_X10_undo_0, e_X10_undo_5, e_X10_undo_9, e_X10_undo_18, e_X10_undo_23, e_X10_undo_28, rf_0, rf_1, rf_2, rf_3, rf_4, rf_5, rf_6, rf_7, rf_8, rf_9, rf_10, rf_11, rf_12, rf_13, rf_14, rf_15, rf_16, rf_17, rf_18, rf_19, rf_20, rf_21, rf_22, rf_23, rf_24, rf_25, rf_26, rf_27, rf_28, rf_29, rf_30, rf_31, rf_32, rf_33, rf_34, rp_0, rp_2, rp_5, rp_7, rp_8, rp_9, rp_10, rp_12, rp_16, rp_20, rp_21, rp_22, rp_25, rp_27, rp_30, rp_32, bI_r, bO_some, bF_I, bF_D, bF_C, bC_v, pk_mul, nI_add, Option.toList, List.cons_append, List.nil_append, upd_eq, upr_eq, Nat.reduceEqDiff, reduceIte, h5, h9, not_false_eq_true, if_true, pk_sub (show 1 ≤ m by omega)]
    rw [q2]
    simp only [e_X10_undo_64, e_X10_undo_68, rf_0, rf_1, rf_2, rf_3, rf_4, rf_5, rf_6, rf_7, rf_8, rf_9, rf_10, rf_11, rf_12, rf_13, rf_14, rf_15, rf_16, rf_17, rf_18, rf_19, rf_20, rf_21, rf_22, rf_23, rf_24, rf_25, rf_26, rf_27, rf_28, rf_29, rf_30, rf_31, rf_32, rf_33, rf_34, rp_0, rp_2, rp_5, rp_7, rp_8, rp_9, rp_10, rp_12, rp_16, rp_20, rp_21, rp_22, rp_25, rp_27, rp_30, rp_32, bI_r, bO_some, bF_I, bF_D, bF_C, bC_v, pk_mul, nI_add, Option.toList, List.cons_append, List.nil_append, upd_eq, upr_eq, Nat.reduceEqDiff, reduceIte]
theorem l_pass (hq : 52 ≤ q ∧ q ≤ 70) (hq' : 52 ≤ q' ∧ q' ≤ 70) (hne : ¬ q = q') (ht : RT q = 0) (ht' : RT q' = 0) (hN : RN q = N) (hN' : RN q' = N) (hNN : N < 2 ^ 31) : ∀ d i, i + d = N → Run sc n_X10_pass 2 [aD 51, aD q, aD q', aI (nI i)] none [] (rh h φ (upr ρ q' (cpy (ρ q) (ρ q') 0 0 i))) = some (.inl none, rh h φ (upr ρ q' (cpy (ρ q) (ρ q') 0 0 N))) := by
  intro d
  have hl : ∀ ρ', lenA sc (rh h φ ρ') (aD q) = some N := fun ρ' => lenA_D ((rh_row hq).trans (by rw [hN]))
  induction d with
  | zero =>
    intro i hi
    have : i = N := by omega
    subst this
    simp only [e_X10_pass_2, e_X10_pass_5, e_X10_pass_20, hl, bO_some, bF_I, bF_D, bF_C, bC_v, pk_mul, nI_add, Option.toList, List.cons_append, List.nil_append, nI_le (Nat.le_refl i) hNN, if_true]
  | succ d ih =>
    intro i hi
    have h1 : ¬ nI N ≤ nI i := nI_ge (by omega) (by omega)
    have e1 := fun ρ' => rl (sc := sc) (h := h) (φ := φ) (ρ := ρ') (T := fun t => t == 0) hq (by rw [ht]; rfl) (show i < RN q by omega) (by omega)
    have e2 := fun ρ' x => rsq (h := h) (φ := φ) (ρ := ρ') (x := x) (T := fun t => t == 0) hq' (by rw [ht']; rfl) (show i < RN q' by omega) (by omega)
    simp only [ht'] at e2
    have h3 : ∀ y, narK 0 y = y := fun y => rfl
    have h4 : upr ρ q' (cpy (ρ q) (ρ q') 0 0 i) q = ρ q := by
      rw [upr_eq, if_neg hne]
    have h5 : upr ρ q' (cpy (ρ q) (ρ q') 0 0 i) q' = cpy (ρ q) (ρ q') 0 0 i := by
      rw [upr_eq, if_pos rfl]
    rw [e_X10_pass_2]
    simp only [e_X10_pass_5, e_X10_pass_8, e_X10_pass_13, e_X10_pass_14, hl, bO_some, bF_I, bF_D, bF_C, bC_v, pk_mul, nI_add, Option.toList, List.cons_append, List.nil_append, h1, if_false, e1, e2, h3, h4, h5, cpy_00, upr_upr]
    exact ih (i + 1) (by omega)
theorem r_pass (hq : 52 ≤ q ∧ q ≤ 70) (hq' : 52 ≤ q' ∧ q' ≤ 70) (hne : ¬ q = q') (ht : RT q = 0) (ht' : RT q' = 0) (hN : RN q = N) (hN' : RN q' = N) (hNN : N < 2 ^ 31) : Call sc n_X10_pass [aD 51, aD q, aD q'] (rh h φ ρ) = some (.inl none, rh h φ (upr ρ q' (cpy (ρ q) (ρ q') 0 0 N))) := by
  have q2 := l_pass (sc := sc) (h := h) (φ := φ) (ρ := ρ) hq hq' hne ht ht' hN hN' hNN N 0 (by omega)
  rw [cpy_0, upr_self] at q2
  rw [c0_X10_pass, e_X10_pass_0]
  exact q2
def svR (ρ : Nat → Nat → Int32) : Nat → Nat → Int32 := upr (upr (upr ρ 68 (cpy (ρ 52) (ρ 68) 0 0 120)) 69 (cpy (ρ 53) (ρ 69) 0 0 301)) 70 (cpy (ρ 60) (ρ 70) 0 0 24)
theorem r_save : Call sc n_X10_save [aD 51] (rh h φ ρ) = some (.inl (some (aI (φ 2))), rh h (upd (upd (upd φ 0 (nI 0)) 30 (zI true)) 32 (φ 2)) (svR ρ)) := by
  have e1 := fun φ ρ => r_pass (sc := sc) (h := h) (φ := φ) (ρ := ρ) (q := 52) (q' := 68) (N := 120) (by omega) (by omega) (by omega) rfl rfl rfl rfl (by omega)
  have e2 := fun φ ρ => r_pass (sc := sc) (h := h) (φ := φ) (ρ := ρ) (q := 53) (q' := 69) (N := 301) (by omega) (by omega) (by omega) rfl rfl rfl rfl (by omega)
  have e3 := fun φ ρ => r_pass (sc := sc) (h := h) (φ := φ) (ρ := ρ) (q := 60) (q' := 70) (N := 24) (by omega) (by omega) (by omega) rfl rfl rfl rfl (by omega)
  have e4 := fun (φ : Nat → Int32) (ρ : Nat → Nat → Int32) => rp_30 (h := h) (φ := φ) (ρ := ρ) true
  rw [show zI true = nI 1 from rfl] at e4 ⊢
  simp only [c0_X10_save, e_X10_save_0, e_X10_save_5, e_X10_save_10, e_X10_save_15, e_X10_save_19, e_X10_save_22, e_X10_save_27, e_X10_save_30, e_X10_save_35, e_X10_save_39, e_X10_save_42, e_X10_save_47, e_X10_save_51, e_X10_save_54, e_X10_save_58, rf_0, rf_1, rf_2, rf_3, rf_4, rf_5, rf_6, rf_7, rf_8, rf_9, rf_10, rf_11, rf_12, rf_13, rf_14, rf_15, rf_16, rf_17, rf_18, rf_19, rf_20, rf_21, rf_22, rf_23, rf_24, rf_25, rf_26, rf_27, rf_28, rf_29, rf_30, rf_31, rf_32, rf_33, rf_34, rp_0, rp_2, rp_5, rp_7, rp_8, rp_9, rp_10, rp_12, rp_16, rp_20, rp_21, rp_22, rp_25, rp_27, rp_30, rp_32, bI_r, bO_some, bF_I, bF_D, bF_C, bC_v, pk_mul, nI_add, Option.toList, List.cons_append, List.nil_append, upd_eq, upr_eq, Nat.reduceEqDiff, reduceIte, e1, e2, e3, e4]
  rfl
def rsR (ρ : Nat → Nat → Int32) : Nat → Nat → Int32 := upr (upr (upr ρ 52 (cpy (ρ 68) (ρ 52) 0 0 120)) 53 (cpy (ρ 69) (ρ 53) 0 0 301)) 60 (cpy (ρ 70) (ρ 60) 0 0 24)
theorem r_restore (b : Bool) (h30 : φ 30 = zI b) : Call sc n_X10_restore [aD 51] (rh h φ ρ) = if b = true then some (.inl (some (aI (φ 32))), rh h (upd (upd (upd φ 0 (nI 0)) 2 (φ 32)) 5 (nI 0)) (rsR ρ)) else some (.inl (some (aI (nI 0))), rh h (upd φ 0 (nI 1)) ρ) := by
  have e1 := fun φ ρ => r_pass (sc := sc) (h := h) (φ := φ) (ρ := ρ) (q := 68) (q' := 52) (N := 120) (by omega) (by omega) (by omega) rfl rfl rfl rfl (by omega)
  have e2 := fun φ ρ => r_pass (sc := sc) (h := h) (φ := φ) (ρ := ρ) (q := 69) (q' := 53) (N := 301) (by omega) (by omega) (by omega) rfl rfl rfl rfl (by omega)
  have e3 := fun φ ρ => r_pass (sc := sc) (h := h) (φ := φ) (ρ := ρ) (q := 70) (q' := 60) (N := 24) (by omega) (by omega) (by omega) rfl rfl rfl rfl (by omega)
  cases b
  · rw [if_neg (by decide)]
    simp only [c0_X10_restore, e_X10_restore_0, e_X10_restore_5, e_X10_restore_9, e_X10_restore_12, e_X10_restore_17, e_X10_restore_18, e_X10_restore_23, e_X10_restore_27, e_X10_restore_30, e_X10_restore_35, e_X10_restore_38, e_X10_restore_43, e_X10_restore_47, e_X10_restore_50, e_X10_restore_55, e_X10_restore_59, e_X10_restore_62, e_X10_restore_67, e_X10_restore_71, rf_0, rf_1, rf_2, rf_3, rf_4, rf_5, rf_6, rf_7, rf_8, rf_9, rf_10, rf_11, rf_12, rf_13, rf_14, rf_15, rf_16, rf_17, rf_18, rf_19, rf_20, rf_21, rf_22, rf_23, rf_24, rf_25, rf_26, rf_27, rf_28, rf_29, rf_30, rf_31, rf_32, rf_33, rf_34, rp_0, rp_2, rp_5, rp_7, rp_8, rp_9, rp_10, rp_12, rp_16, rp_20, rp_21, rp_22, rp_25, rp_27, rp_30, rp_32, bI_r, bO_some, bF_I, bF_D, bF_C, bC_v, pk_mul, nI_add, Option.toList, List.cons_append, List.nil_append, upd_eq, upr_eq, Nat.reduceEqDiff, reduceIte, h30, zI_0, if_true, if_false, eq_self, not_true_eq_false, not_false_eq_true, fail_r, upd_upd]
  · rw [if_pos rfl]
    simp only [c0_X10_restore, e_X10_restore_0, e_X10_restore_5, e_X10_restore_9, e_X10_restore_12, e_X10_restore_17, e_X10_restore_18, e_X10_restore_23, e_X10_restore_27, e_X10_restore_30, e_X10_restore_35, e_X10_restore_38, e_X10_restore_43, e_X10_restore_47, e_X10_restore_50, e_X10_restore_55, e_X10_restore_59, e_X10_restore_62, e_X10_restore_67, e_X10_restore_71, rf_0, rf_1, rf_2, rf_3, rf_4, rf_5, rf_6, rf_7, rf_8, rf_9, rf_10, rf_11, rf_12, rf_13, rf_14, rf_15, rf_16, rf_17, rf_18, rf_19, rf_20, rf_21, rf_22, rf_23, rf_24, rf_25, rf_26, rf_27, rf_28, rf_29, rf_30, rf_31, rf_32, rf_33, rf_34, rp_0, rp_2, rp_5, rp_7, rp_8, rp_9, rp_10, rp_12, rp_16, rp_20, rp_21, rp_22, rp_25, rp_27, rp_30, rp_32, bI_r, bO_some, bF_I, bF_D, bF_C, bC_v, pk_mul, nI_add, Option.toList, List.cons_append, List.nil_append, upd_eq, upr_eq, Nat.reduceEqDiff, reduceIte, h30, zI_0, if_true, if_false, eq_self, not_true_eq_false, not_false_eq_true, reduceCtorEq, e1, e2, e3]
    rfl
end
