/-! PURE 55: the reference: letters, names, kinds -/
theorem alB_iff {P : Nat → Bool} : ∀ d i, alB P d i = true ↔ ∀ j, i ≤ j → j < i + d → P j = true := by
  intro d
  induction d with
  | zero =>
    intro i
    exact ⟨fun _ j h1 h2 => by omega, fun _ => rfl⟩
  | succ d ih =>
    intro i
    simp only [alB, Bool.and_eq_true, ih (i + 1)]
    constructor
    · rintro ⟨h1, h2⟩ j h3 h4
      by_cases hj : j = i
      · rw [hj]
        exact h1
      · exact h2 j (by omega) (by omega)
    · intro h1
      exact ⟨h1 i (by omega) (by omega), fun j h3 h4 => h1 j (by omega) (by omega)⟩
theorem rl_fit {c : Nat → Int32} {len : Nat} : ∀ d e, e + d = len → ∀ e', e ≤ e' → e' ≤ len → (∀ j, e ≤ j → j < e' → ltrX (c j) = true) → (e' = len ∨ ltrX (c e') = false) → rlX c len d e = e' := by
  intro d
  induction d with
  | zero =>
    intro e he e' h1 h2 _ _
    show e = e'
    omega
  | succ d ih =>
    intro e he e' h1 h2 h3 h4
    unfold rlX
    by_cases hl : ltrX (c e) = true
    · rw [if_pos hl]
      have hne : ¬ e' = e := by
        intro z
        subst z
        rcases h4 with h4 | h4
        · omega
        · rw [hl] at h4
          cases h4
      exact ih (e + 1) (by omega) e' (by omega) h2 (fun j q1 q2 => h3 j (by omega) q2) h4
    · rw [if_neg hl]
      refine Classical.byContradiction fun z => hl (h3 e (Nat.le_refl e) (by omega))
theorem rl_is {c : Nat → Int32} {len : Nat} : ∀ d e, e + d = len → (∀ j, e ≤ j → j < rlX c len d e → ltrX (c j) = true) ∧ (rlX c len d e = len ∨ ltrX (c (rlX c len d e)) = false) := by
  intro d
  induction d with
  | zero =>
    intro e he
    exact ⟨fun j h1 h2 => by have h3 : j < e := h2; omega, Or.inl (by show e = len; omega)⟩
  | succ d ih =>
    intro e he
    unfold rlX
    by_cases hl : ltrX (c e) = true
    · rw [if_pos hl]
      obtain ⟨h1, h2⟩ := ih (e + 1) (by omega)
      refine ⟨fun j q1 q2 => ?_, h2⟩
      by_cases hj : j = e
      · rw [hj]
        exact hl
      · exact h1 j (by omega) q2
    · rw [if_neg hl]
      rw [Bool.not_eq_true] at hl
      exact ⟨fun j h1 h2 => by omega, Or.inr hl⟩
def LT (c : Nat → Int32) (len i : Nat) : Int32 := if i < len ∧ ltrX (c i) = true then c i else nI 0
def nmB (c : Nat → Int32) (len p k : Nat) : Bool := alB (fun i => decide (LT c len (p + i) = (wL k).getD i 0)) (wL k).length 0 && decide (LT c len (p + (wL k).length) = nI 0)
theorem wl_ltr : ∀ k, k < 12 → ∀ c, c ∈ wL k → ltrX c = true ∧ ¬ c = nI 0 := by
  intro k hk
  rcases twelve hk with rfl | rfl | rfl | rfl | rfl | rfl | rfl | rfl | rfl | rfl | rfl | rfl <;> decide
theorem wl_at {k i : Nat} (hk : k < 12) (hi : i < (wL k).length) : ltrX ((wL k).getD i 0) = true ∧ ¬ (wL k).getD i 0 = nI 0 := by
  refine wl_ltr k hk _ ?_
  rw [List.getD_eq_getElem?_getD, List.getElem?_eq_getElem hi]
  exact List.getElem_mem hi
theorem wl_pos : ∀ k, k < 12 → 3 ≤ (wL k).length ∧ (wL k).length ≤ 5 := by decide
theorem mt_nm {c : Nat → Int32} {len p k : Nat} (hk : k < 12) (hp : p ≤ len) : mtX c len p k = nmB c len p k := by
  have hw := wl_pos k hk
  have hge := rl_ge c len (len - p) p
  rw [Bool.eq_iff_iff]
  unfold mtX nmB
  simp only [Bool.and_eq_true, alB_iff, Nat.beq_eq, decide_eq_true_eq, Nat.zero_add]
  constructor
  · rintro ⟨h1, h2⟩
    obtain ⟨h3, h4⟩ := rl_is (c := c) (len := len) (len - p) p (by omega)
    have h5 : rlX c len (len - p) p = p + (wL k).length := by omega
    rw [h5] at h3 h4
    refine ⟨fun j q1 q2 => ?_, ?_⟩
    · unfold LT
      rw [if_pos ⟨by omega, h3 _ (by omega) (by omega)⟩]
      exact h2 j q1 q2
    · unfold LT
      rw [if_neg]
      rintro ⟨q1, q2⟩
      rcases h4 with h4 | h4
      · omega
      · rw [q2] at h4
        cases h4
  · rintro ⟨h1, h2⟩
    have h3 : ∀ j, j < (wL k).length → p + j < len ∧ ltrX (c (p + j)) = true ∧ c (p + j) = (wL k).getD j 0 := by
      intro j hj
      have h4 := h1 j (Nat.zero_le j) hj
      unfold LT at h4
      by_cases hh : p + j < len ∧ ltrX (c (p + j)) = true
      · rw [if_pos hh] at h4
        exact ⟨hh.1, hh.2, h4⟩
      · rw [if_neg hh] at h4
        exact absurd h4.symm (wl_at hk hj).2
    have h5 := rl_fit (c := c) (len := len) (len - p) p (by omega) (p + (wL k).length) (by omega) (by have := (h3 ((wL k).length - 1) (by omega)).1; omega) (fun j q1 q2 => by
      have := (h3 (j - p) (by omega)).2.1
      rw [show p + (j - p) = j by omega] at this
      exact this) (by
      by_cases hl : p + (wL k).length = len
      · exact Or.inl hl
      · refine Or.inr ?_
        have hlt : p + (wL k).length < len := by
          have := (h3 ((wL k).length - 1) (by omega)).1
          omega
        unfold LT at h2
        cases hc : ltrX (c (p + (wL k).length))
        · rfl
        · rw [if_pos ⟨hlt, hc⟩] at h2
          rw [h2] at hc
          exact absurd hc (by decide))
    refine ⟨by omega, fun j q1 q2 => (h3 j q2).2.2⟩
section
variable {sc : SC} {h : AH} {φ : Nat → Int32} {ρ : Nat → Nat → Int32} {len j p k : Nat} {a b c d e : Int32}
theorem r_letterAt (h8 : φ 8 = nI len) (hl : len ≤ 120) (hj : j < 2 ^ 30) : Call sc n_X10_letterAt [aD 51, aI (nI j)] (rh h φ ρ) = some (.inl (some (aI (LT (ρ 55) len j))), rh h φ ρ) := by
  unfold LT
  by_cases h1 : j < len
  · have h2 : ¬ nI len ≤ nI j := nI_ge h1 (by omega)
    have h3 : decide (¬ ρ 55 j < nI 97 ∧ ¬ nI 122 < ρ 55 j) = ltrX (ρ 55 j) := Bool.decide_and ..
    cases hb : ltrX (ρ 55 j)
    · simp only [c0_X10_letterAt, e_X10_letterAt_0, e_X10_letterAt_5, e_X10_letterAt_8, e_X10_letterAt_12, e_X10_letterAt_14, e_X10_letterAt_21, e_X10_letterAt_24, e_X10_letterAt_28, e_X10_letterAt_30, e_X10_letterAt_33, e_X10_letterAt_34, rf_0, rf_1, rf_2, rf_3, rf_4, rf_5, rf_6, rf_7, rf_8, rf_9, rf_10, rf_11, rf_12, rf_13, rf_14, rf_15, rf_16, rf_17, rf_18, rf_19, rf_20, rf_21, rf_22, rf_23, rf_24, rf_25, rf_26, rf_27, rf_28, rf_29, rf_30, rf_31, rf_32, rf_33, rf_34, rp_0, rp_2, rp_5, rp_7, rp_8, rp_9, rp_10, rp_12, rp_16, rp_20, rp_21, rp_22, rp_25, rp_27, rp_30, rp_32, bI_r, bO_some, bF_I, bF_D, bF_C, bC_v, pk_mul, nI_add, Option.toList, List.cons_append, List.nil_append, upd_eq, upr_eq, Nat.reduceEqDiff, reduceIte, h8, h2, if_false, rl_56 (show j < 120 by omega), c_isIn, h3, hb, zI_0, if_true, if_false, eq_self, not_true_eq_false, not_false_eq_true, reduceCtorEq, and_false]
    · simp only [c0_X10_letterAt, e_X10_letterAt_0, e_X10_letterAt_5, e_X10_letterAt_8, e_X10_letterAt_12, e_X10_letterAt_14, e_X10_letterAt_21, e_X10_letterAt_24, e_X10_letterAt_28, e_X10_letterAt_30, e_X10_letterAt_33, e_X10_letterAt_34, rf_0, rf_1, rf_2, rf_3, rf_4, rf_5, rf_6, rf_7, rf_8, rf_9, rf_10, rf_11, rf_12, rf_13, rf_14, rf_15, rf_16, rf_17, rf_18, rf_19, rf_20, rf_21, rf_22, rf_23, rf_24, rf_25, rf_26, rf_27, rf_28, rf_29, rf_30, rf_31, rf_32, rf_33, rf_34, rp_0, rp_2, rp_5, rp_7, rp_8, rp_9, rp_10, rp_12, rp_16, rp_20, rp_21, rp_22, rp_25, rp_27, rp_30, rp_32, bI_r, bO_some, bF_I, bF_D, bF_C, bC_v, pk_mul, nI_add, Option.toList, List.cons_append, List.nil_append, upd_eq, upr_eq, Nat.reduceEqDiff, reduceIte, h8, h2, h1, if_false, rl_56 (show j < 120 by omega), c_isIn, h3, hb, zI_0, if_true, if_false, eq_self, not_true_eq_false, not_false_eq_true, reduceCtorEq, and_self]
  · have h2 : nI len ≤ nI j := nI_le (by omega) (by omega)
    simp only [c0_X10_letterAt, e_X10_letterAt_0, e_X10_letterAt_5, e_X10_letterAt_8, e_X10_letterAt_12, e_X10_letterAt_14, e_X10_letterAt_21, e_X10_letterAt_24, e_X10_letterAt_28, e_X10_letterAt_30, e_X10_letterAt_33, e_X10_letterAt_34, rf_0, rf_1, rf_2, rf_3, rf_4, rf_5, rf_6, rf_7, rf_8, rf_9, rf_10, rf_11, rf_12, rf_13, rf_14, rf_15, rf_16, rf_17, rf_18, rf_19, rf_20, rf_21, rf_22, rf_23, rf_24, rf_25, rf_26, rf_27, rf_28, rf_29, rf_30, rf_31, rf_32, rf_33, rf_34, rp_0, rp_2, rp_5, rp_7, rp_8, rp_9, rp_10, rp_12, rp_16, rp_20, rp_21, rp_22, rp_25, rp_27, rp_30, rp_32, bI_r, bO_some, bF_I, bF_D, bF_C, bC_v, pk_mul, nI_add, Option.toList, List.cons_append, List.nil_append, upd_eq, upr_eq, Nat.reduceEqDiff, reduceIte, h8, h2, h1, if_true, false_and, if_false]

theorem isN3 (h8 : φ 8 = nI len) (hl : len ≤ 120) (hp : p ≤ 120) (hc : ¬ c = 0) : Call sc n_X10_isName [aD 51, aI (nI p), aI a, aI b, aI c, aI (nI 0), aI (nI 0)] (rh h φ ρ) = some (.inl (some (aI (zI ((decide (LT (ρ 55) len (p + 0) = a) && (decide (LT (ρ 55) len (p + 1) = b) && (decide (LT (ρ 55) len (p + 2) = c) && true))) && decide (LT (ρ 55) len (p + 3) = nI 0))))), rh h φ ρ) := by
  have L := fun i (hi : i < 6) => r_letterAt (sc := sc) (h := h) (φ := φ) (ρ := ρ) (len := len) (j := p + i) h8 hl (by omega)
  have L0 : Call sc n_X10_letterAt [aD 51, aI (nI p)] (rh h φ ρ) = some (.inl (some (aI (LT (ρ 55) len (p + 0)))), rh h φ ρ) := L 0 (by omega)
  have L1 := L 1 (by omega)
  have L2 := L 2 (by omega)
  have L3 := L 3 (by omega)
  have L4 := L 4 (by omega)
  have L5 := L 5 (by omega)
  have z0 : (nI 0 = 0) = True := eq_true (by decide)
  have z1 : (nI 1 = 0) = False := eq_false (by decide)
  clear L
  by_cases q0 : LT (ρ 55) len (p + 0) = a
  · skip
    by_cases q1 : LT (ρ 55) len (p + 1) = b
    · skip
      by_cases q2 : LT (ρ 55) len (p + 2) = c
      · skip
        by_cases q3 : LT (ρ 55) len (p + 3) = nI 0
        · skip
          simp only [c0_X10_isName, e_X10_isName_0, e_X10_isName_5, e_X10_isName_9, e_X10_isName_16, e_X10_isName_20, e_X10_isName_27, e_X10_isName_32, e_X10_isName_36, e_X10_isName_37, e_X10_isName_44, e_X10_isName_49, e_X10_isName_56, e_X10_isName_61, e_X10_isName_65, e_X10_isName_66, e_X10_isName_73, e_X10_isName_78, e_X10_isName_83, e_X10_isName_90, e_X10_isName_95, e_X10_isName_100, e_X10_isName_107, e_X10_isName_110, e_X10_isName_114, e_X10_isName_115, rf_0, rf_1, rf_2, rf_3, rf_4, rf_5, rf_6, rf_7, rf_8, rf_9, rf_10, rf_11, rf_12, rf_13, rf_14, rf_15, rf_16, rf_17, rf_18, rf_19, rf_20, rf_21, rf_22, rf_23, rf_24, rf_25, rf_26, rf_27, rf_28, rf_29, rf_30, rf_31, rf_32, rf_33, rf_34, rp_0, rp_2, rp_5, rp_7, rp_8, rp_9, rp_10, rp_12, rp_16, rp_20, rp_21, rp_22, rp_25, rp_27, rp_30, rp_32, bI_r, bO_some, bF_I, bF_D, bF_C, bC_v, pk_mul, nI_add, Option.toList, List.cons_append, List.nil_append, upd_eq, upr_eq, Nat.reduceEqDiff, reduceIte, L0, L1, L2, L3, L4, L5, q0, q1, q2, q3, hc, z0, z1, not_true_eq_false, not_false_eq_true, if_true, if_false, decide_true, decide_false, Bool.true_and, Bool.false_and, Bool.and_true, Bool.and_false]
          exact bI_t (by rfl) _
        · skip
          simp only [c0_X10_isName, e_X10_isName_0, e_X10_isName_5, e_X10_isName_9, e_X10_isName_16, e_X10_isName_20, e_X10_isName_27, e_X10_isName_32, e_X10_isName_36, e_X10_isName_37, e_X10_isName_44, e_X10_isName_49, e_X10_isName_56, e_X10_isName_61, e_X10_isName_65, e_X10_isName_66, e_X10_isName_73, e_X10_isName_78, e_X10_isName_83, e_X10_isName_90, e_X10_isName_95, e_X10_isName_100, e_X10_isName_107, e_X10_isName_110, e_X10_isName_114, e_X10_isName_115, rf_0, rf_1, rf_2, rf_3, rf_4, rf_5, rf_6, rf_7, rf_8, rf_9, rf_10, rf_11, rf_12, rf_13, rf_14, rf_15, rf_16, rf_17, rf_18, rf_19, rf_20, rf_21, rf_22, rf_23, rf_24, rf_25, rf_26, rf_27, rf_28, rf_29, rf_30, rf_31, rf_32, rf_33, rf_34, rp_0, rp_2, rp_5, rp_7, rp_8, rp_9, rp_10, rp_12, rp_16, rp_20, rp_21, rp_22, rp_25, rp_27, rp_30, rp_32, bI_r, bO_some, bF_I, bF_D, bF_C, bC_v, pk_mul, nI_add, Option.toList, List.cons_append, List.nil_append, upd_eq, upr_eq, Nat.reduceEqDiff, reduceIte, L0, L1, L2, L3, L4, L5, q0, q1, q2, q3, hc, z0, z1, not_true_eq_false, not_false_eq_true, if_true, if_false, decide_true, decide_false, Bool.true_and, Bool.false_and, Bool.and_true, Bool.and_false]
          exact bI_t (by rfl) _
      · skip
        simp only [c0_X10_isName, e_X10_isName_0, e_X10_isName_5, e_X10_isName_9, e_X10_isName_16, e_X10_isName_20, e_X10_isName_27, e_X10_isName_32, e_X10_isName_36, e_X10_isName_37, e_X10_isName_44, e_X10_isName_49, e_X10_isName_56, e_X10_isName_61, e_X10_isName_65, e_X10_isName_66, e_X10_isName_73, e_X10_isName_78, e_X10_isName_83, e_X10_isName_90, e_X10_isName_95, e_X10_isName_100, e_X10_isName_107, e_X10_isName_110, e_X10_isName_114, e_X10_isName_115, rf_0, rf_1, rf_2, rf_3, rf_4, rf_5, rf_6, rf_7, rf_8, rf_9, rf_10, rf_11, rf_12, rf_13, rf_14, rf_15, rf_16, rf_17, rf_18, rf_19, rf_20, rf_21, rf_22, rf_23, rf_24, rf_25, rf_26, rf_27, rf_28, rf_29, rf_30, rf_31, rf_32, rf_33, rf_34, rp_0, rp_2, rp_5, rp_7, rp_8, rp_9, rp_10, rp_12, rp_16, rp_20, rp_21, rp_22, rp_25, rp_27, rp_30, rp_32, bI_r, bO_some, bF_I, bF_D, bF_C, bC_v, pk_mul, nI_add, Option.toList, List.cons_append, List.nil_append, upd_eq, upr_eq, Nat.reduceEqDiff, reduceIte, L0, L1, L2, L3, L4, L5, q0, q1, q2, hc, z0, z1, not_true_eq_false, not_false_eq_true, if_true, if_false, decide_true, decide_false, Bool.true_and, Bool.false_and, Bool.and_true, Bool.and_false]
        exact bI_t (by rfl) _
    · skip
      simp only [c0_X10_isName, e_X10_isName_0, e_X10_isName_5, e_X10_isName_9, e_X10_isName_16, e_X10_isName_20, e_X10_isName_27, e_X10_isName_32, e_X10_isName_36, e_X10_isName_37, e_X10_isName_44, e_X10_isName_49, e_X10_isName_56, e_X10_isName_61, e_X10_isName_65, e_X10_isName_66, e_X10_isName_73, e_X10_isName_78, e_X10_isName_83, e_X10_isName_90, e_X10_isName_95, e_X10_isName_100, e_X10_isName_107, e_X10_isName_110, e_X10_isName_114, e_X10_isName_115, rf_0, rf_1, rf_2, rf_3, rf_4, rf_5, rf_6, rf_7, rf_8, rf_9, rf_10, rf_11, rf_12, rf_13, rf_14, rf_15, rf_16, rf_17, rf_18, rf_19, rf_20, rf_21, rf_22, rf_23, rf_24, rf_25, rf_26, rf_27, rf_28, rf_29, rf_30, rf_31, rf_32, rf_33, rf_34, rp_0, rp_2, rp_5, rp_7, rp_8, rp_9, rp_10, rp_12, rp_16, rp_20, rp_21, rp_22, rp_25, rp_27, rp_30, rp_32, bI_r, bO_some, bF_I, bF_D, bF_C, bC_v, pk_mul, nI_add, Option.toList, List.cons_append, List.nil_append, upd_eq, upr_eq, Nat.reduceEqDiff, reduceIte, L0, L1, L2, L3, L4, L5, q0, q1, hc, z0, z1, not_true_eq_false, not_false_eq_true, if_true, if_false, decide_true, decide_false, Bool.true_and, Bool.false_and, Bool.and_true, Bool.and_false]
      exact bI_t (by rfl) _
  · skip
    simp only [c0_X10_isName, e_X10_isName_0, e_X10_isName_5, e_X10_isName_9, e_X10_isName_16, e_X10_isName_20, e_X10_isName_27, e_X10_isName_32, e_X10_isName_36, e_X10_isName_37, e_X10_isName_44, e_X10_isName_49, e_X10_isName_56, e_X10_isName_61, e_X10_isName_65, e_X10_isName_66, e_X10_isName_73, e_X10_isName_78, e_X10_isName_83, e_X10_isName_90, e_X10_isName_95, e_X10_isName_100, e_X10_isName_107, e_X10_isName_110, e_X10_isName_114, e_X10_isName_115, rf_0, rf_1, rf_2, rf_3, rf_4, rf_5, rf_6, rf_7, rf_8, rf_9, rf_10, rf_11, rf_12, rf_13, rf_14, rf_15, rf_16, rf_17, rf_18, rf_19, rf_20, rf_21, rf_22, rf_23, rf_24, rf_25, rf_26, rf_27, rf_28, rf_29, rf_30, rf_31, rf_32, rf_33, rf_34, rp_0, rp_2, rp_5, rp_7, rp_8, rp_9, rp_10, rp_12, rp_16, rp_20, rp_21, rp_22, rp_25, rp_27, rp_30, rp_32, bI_r, bO_some, bF_I, bF_D, bF_C, bC_v, pk_mul, nI_add, Option.toList, List.cons_append, List.nil_append, upd_eq, upr_eq, Nat.reduceEqDiff, reduceIte, L0, L1, L2, L3, L4, L5, q0, hc, z0, z1, not_true_eq_false, not_false_eq_true, if_true, if_false, decide_true, decide_false, Bool.true_and, Bool.false_and, Bool.and_true, Bool.and_false]
    exact bI_t (by rfl) _
theorem isN4 (h8 : φ 8 = nI len) (hl : len ≤ 120) (hp : p ≤ 120) (hc : ¬ c = 0) (hd : ¬ d = 0) : Call sc n_X10_isName [aD 51, aI (nI p), aI a, aI b, aI c, aI d, aI (nI 0)] (rh h φ ρ) = some (.inl (some (aI (zI ((decide (LT (ρ 55) len (p + 0) = a) && (decide (LT (ρ 55) len (p + 1) = b) && (decide (LT (ρ 55) len (p + 2) = c) && (decide (LT (ρ 55) len (p + 3) = d) && true)))) && decide (LT (ρ 55) len (p + 4) = nI 0))))), rh h φ ρ) := by
  have L := fun i (hi : i < 6) => r_letterAt (sc := sc) (h := h) (φ := φ) (ρ := ρ) (len := len) (j := p + i) h8 hl (by omega)
  have L0 : Call sc n_X10_letterAt [aD 51, aI (nI p)] (rh h φ ρ) = some (.inl (some (aI (LT (ρ 55) len (p + 0)))), rh h φ ρ) := L 0 (by omega)
  have L1 := L 1 (by omega)
  have L2 := L 2 (by omega)
  have L3 := L 3 (by omega)
  have L4 := L 4 (by omega)
  have L5 := L 5 (by omega)
  have z0 : (nI 0 = 0) = True := eq_true (by decide)
  have z1 : (nI 1 = 0) = False := eq_false (by decide)
  clear L
  by_cases q0 : LT (ρ 55) len (p + 0) = a
  · skip
    by_cases q1 : LT (ρ 55) len (p + 1) = b
    · skip
      by_cases q2 : LT (ρ 55) len (p + 2) = c
      · skip
        by_cases q3 : LT (ρ 55) len (p + 3) = d
        · skip
          by_cases q4 : LT (ρ 55) len (p + 4) = nI 0
          · skip
            simp only [c0_X10_isName, e_X10_isName_0, e_X10_isName_5, e_X10_isName_9, e_X10_isName_16, e_X10_isName_20, e_X10_isName_27, e_X10_isName_32, e_X10_isName_36, e_X10_isName_37, e_X10_isName_44, e_X10_isName_49, e_X10_isName_56, e_X10_isName_61, e_X10_isName_65, e_X10_isName_66, e_X10_isName_73, e_X10_isName_78, e_X10_isName_83, e_X10_isName_90, e_X10_isName_95, e_X10_isName_100, e_X10_isName_107, e_X10_isName_110, e_X10_isName_114, e_X10_isName_115, rf_0, rf_1, rf_2, rf_3, rf_4, rf_5, rf_6, rf_7, rf_8, rf_9, rf_10, rf_11, rf_12, rf_13, rf_14, rf_15, rf_16, rf_17, rf_18, rf_19, rf_20, rf_21, rf_22, rf_23, rf_24, rf_25, rf_26, rf_27, rf_28, rf_29, rf_30, rf_31, rf_32, rf_33, rf_34, rp_0, rp_2, rp_5, rp_7, rp_8, rp_9, rp_10, rp_12, rp_16, rp_20, rp_21, rp_22, rp_25, rp_27, rp_30, rp_32, bI_r, bO_some, bF_I, bF_D, bF_C, bC_v, pk_mul, nI_add, Option.toList, List.cons_append, List.nil_append, upd_eq, upr_eq, Nat.reduceEqDiff, reduceIte, L0, L1, L2, L3, L4, L5, q0, q1, q2, q3, q4, hc, hd, z0, z1, not_true_eq_false, not_false_eq_true, if_true, if_false, decide_true, decide_false, Bool.true_and, Bool.false_and, Bool.and_true, Bool.and_false]
            exact bI_t (by rfl) _
          · skip
            simp only [c0_X10_isName, e_X10_isName_0, e_X10_isName_5, e_X10_isName_9, e_X10_isName_16, e_X10_isName_20, e_X10_isName_27, e_X10_isName_32, e_X10_isName_36, e_X10_isName_37, e_X10_isName_44, e_X10_isName_49, e_X10_isName_56, e_X10_isName_61, e_X10_isName_65, e_X10_isName_66, e_X10_isName_73, e_X10_isName_78, e_X10_isName_83, e_X10_isName_90, e_X10_isName_95, e_X10_isName_100, e_X10_isName_107, e_X10_isName_110, e_X10_isName_114, e_X10_isName_115, rf_0, rf_1, rf_2, rf_3, rf_4, rf_5, rf_6, rf_7, rf_8, rf_9, rf_10, rf_11, rf_12, rf_13, rf_14, rf_15, rf_16, rf_17, rf_18, rf_19, rf_20, rf_21, rf_22, rf_23, rf_24, rf_25, rf_26, rf_27, rf_28, rf_29, rf_30, rf_31, rf_32, rf_33, rf_34, rp_0, rp_2, rp_5, rp_7, rp_8, rp_9, rp_10, rp_12, rp_16, rp_20, rp_21, rp_22, rp_25, rp_27, rp_30, rp_32, bI_r, bO_some, bF_I, bF_D, bF_C, bC_v, pk_mul, nI_add, Option.toList, List.cons_append, List.nil_append, upd_eq, upr_eq, Nat.reduceEqDiff, reduceIte, L0, L1, L2, L3, L4, L5, q0, q1, q2, q3, q4, hc, hd, z0, z1, not_true_eq_false, not_false_eq_true, if_true, if_false, decide_true, decide_false, Bool.true_and, Bool.false_and, Bool.and_true, Bool.and_false]
            exact bI_t (by rfl) _
        · skip
          simp only [c0_X10_isName, e_X10_isName_0, e_X10_isName_5, e_X10_isName_9, e_X10_isName_16, e_X10_isName_20, e_X10_isName_27, e_X10_isName_32, e_X10_isName_36, e_X10_isName_37, e_X10_isName_44, e_X10_isName_49, e_X10_isName_56, e_X10_isName_61, e_X10_isName_65, e_X10_isName_66, e_X10_isName_73, e_X10_isName_78, e_X10_isName_83, e_X10_isName_90, e_X10_isName_95, e_X10_isName_100, e_X10_isName_107, e_X10_isName_110, e_X10_isName_114, e_X10_isName_115, rf_0, rf_1, rf_2, rf_3, rf_4, rf_5, rf_6, rf_7, rf_8, rf_9, rf_10, rf_11, rf_12, rf_13, rf_14, rf_15, rf_16, rf_17, rf_18, rf_19, rf_20, rf_21, rf_22, rf_23, rf_24, rf_25, rf_26, rf_27, rf_28, rf_29, rf_30, rf_31, rf_32, rf_33, rf_34, rp_0, rp_2, rp_5, rp_7, rp_8, rp_9, rp_10, rp_12, rp_16, rp_20, rp_21, rp_22, rp_25, rp_27, rp_30, rp_32, bI_r, bO_some, bF_I, bF_D, bF_C, bC_v, pk_mul, nI_add, Option.toList, List.cons_append, List.nil_append, upd_eq, upr_eq, Nat.reduceEqDiff, reduceIte, L0, L1, L2, L3, L4, L5, q0, q1, q2, q3, hc, hd, z0, z1, not_true_eq_false, not_false_eq_true, if_true, if_false, decide_true, decide_false, Bool.true_and, Bool.false_and, Bool.and_true, Bool.and_false]
          exact bI_t (by rfl) _
      · skip
        simp only [c0_X10_isName, e_X10_isName_0, e_X10_isName_5, e_X10_isName_9, e_X10_isName_16, e_X10_isName_20, e_X10_isName_27, e_X10_isName_32, e_X10_isName_36, e_X10_isName_37, e_X10_isName_44, e_X10_isName_49, e_X10_isName_56, e_X10_isName_61, e_X10_isName_65, e_X10_isName_66, e_X10_isName_73, e_X10_isName_78, e_X10_isName_83, e_X10_isName_90, e_X10_isName_95, e_X10_isName_100, e_X10_isName_107, e_X10_isName_110, e_X10_isName_114, e_X10_isName_115, rf_0, rf_1, rf_2, rf_3, rf_4, rf_5, rf_6, rf_7, rf_8, rf_9, rf_10, rf_11, rf_12, rf_13, rf_14, rf_15, rf_16, rf_17, rf_18, rf_19, rf_20, rf_21, rf_22, rf_23, rf_24, rf_25, rf_26, rf_27, rf_28, rf_29, rf_30, rf_31, rf_32, rf_33, rf_34, rp_0, rp_2, rp_5, rp_7, rp_8, rp_9, rp_10, rp_12, rp_16, rp_20, rp_21, rp_22, rp_25, rp_27, rp_30, rp_32, bI_r, bO_some, bF_I, bF_D, bF_C, bC_v, pk_mul, nI_add, Option.toList, List.cons_append, List.nil_append, upd_eq, upr_eq, Nat.reduceEqDiff, reduceIte, L0, L1, L2, L3, L4, L5, q0, q1, q2, hc, hd, z0, z1, not_true_eq_false, not_false_eq_true, if_true, if_false, decide_true, decide_false, Bool.true_and, Bool.false_and, Bool.and_true, Bool.and_false]
        exact bI_t (by rfl) _
    · skip
      simp only [c0_X10_isName, e_X10_isName_0, e_X10_isName_5, e_X10_isName_9, e_X10_isName_16, e_X10_isName_20, e_X10_isName_27, e_X10_isName_32, e_X10_isName_36, e_X10_isName_37, e_X10_isName_44, e_X10_isName_49, e_X10_isName_56, e_X10_isName_61, e_X10_isName_65, e_X10_isName_66, e_X10_isName_73, e_X10_isName_78, e_X10_isName_83, e_X10_isName_90, e_X10_isName_95, e_X10_isName_100, e_X10_isName_107, e_X10_isName_110, e_X10_isName_114, e_X10_isName_115, rf_0, rf_1, rf_2, rf_3, rf_4, rf_5, rf_6, rf_7, rf_8, rf_9, rf_10, rf_11, rf_12, rf_13, rf_14, rf_15, rf_16, rf_17, rf_18, rf_19, rf_20, rf_21, rf_22, rf_23, rf_24, rf_25, rf_26, rf_27, rf_28, rf_29, rf_30, rf_31, rf_32, rf_33, rf_34, rp_0, rp_2, rp_5, rp_7, rp_8, rp_9, rp_10, rp_12, rp_16, rp_20, rp_21, rp_22, rp_25, rp_27, rp_30, rp_32, bI_r, bO_some, bF_I, bF_D, bF_C, bC_v, pk_mul, nI_add, Option.toList, List.cons_append, List.nil_append, upd_eq, upr_eq, Nat.reduceEqDiff, reduceIte, L0, L1, L2, L3, L4, L5, q0, q1, hc, hd, z0, z1, not_true_eq_false, not_false_eq_true, if_true, if_false, decide_true, decide_false, Bool.true_and, Bool.false_and, Bool.and_true, Bool.and_false]
      exact bI_t (by rfl) _
  · skip
    simp only [c0_X10_isName, e_X10_isName_0, e_X10_isName_5, e_X10_isName_9, e_X10_isName_16, e_X10_isName_20, e_X10_isName_27, e_X10_isName_32, e_X10_isName_36, e_X10_isName_37, e_X10_isName_44, e_X10_isName_49, e_X10_isName_56, e_X10_isName_61, e_X10_isName_65, e_X10_isName_66, e_X10_isName_73, e_X10_isName_78, e_X10_isName_83, e_X10_isName_90, e_X10_isName_95, e_X10_isName_100, e_X10_isName_107, e_X10_isName_110, e_X10_isName_114, e_X10_isName_115, rf_0, rf_1, rf_2, rf_3, rf_4, rf_5, rf_6, rf_7, rf_8, rf_9, rf_10, rf_11, rf_12, rf_13, rf_14, rf_15, rf_16, rf_17, rf_18, rf_19, rf_20, rf_21, rf_22, rf_23, rf_24, rf_25, rf_26, rf_27, rf_28, rf_29, rf_30, rf_31, rf_32, rf_33, rf_34, rp_0, rp_2, rp_5, rp_7, rp_8, rp_9, rp_10, rp_12, rp_16, rp_20, rp_21, rp_22, rp_25, rp_27, rp_30, rp_32, bI_r, bO_some, bF_I, bF_D, bF_C, bC_v, pk_mul, nI_add, Option.toList, List.cons_append, List.nil_append, upd_eq, upr_eq, Nat.reduceEqDiff, reduceIte, L0, L1, L2, L3, L4, L5, q0, hc, hd, z0, z1, not_true_eq_false, not_false_eq_true, if_true, if_false, decide_true, decide_false, Bool.true_and, Bool.false_and, Bool.and_true, Bool.and_false]
    exact bI_t (by rfl) _
theorem isN5 (h8 : φ 8 = nI len) (hl : len ≤ 120) (hp : p ≤ 120) (hc : ¬ c = 0) (hd : ¬ d = 0) (he : ¬ e = 0) : Call sc n_X10_isName [aD 51, aI (nI p), aI a, aI b, aI c, aI d, aI e] (rh h φ ρ) = some (.inl (some (aI (zI ((decide (LT (ρ 55) len (p + 0) = a) && (decide (LT (ρ 55) len (p + 1) = b) && (decide (LT (ρ 55) len (p + 2) = c) && (decide (LT (ρ 55) len (p + 3) = d) && (decide (LT (ρ 55) len (p + 4) = e) && true))))) && decide (LT (ρ 55) len (p + 5) = nI 0))))), rh h φ ρ) := by
  have L := fun i (hi : i < 6) => r_letterAt (sc := sc) (h := h) (φ := φ) (ρ := ρ) (len := len) (j := p + i) h8 hl (by omega)
  have L0 : Call sc n_X10_letterAt [aD 51, aI (nI p)] (rh h φ ρ) = some (.inl (some (aI (LT (ρ 55) len (p + 0)))), rh h φ ρ) := L 0 (by omega)
  have L1 := L 1 (by omega)
  have L2 := L 2 (by omega)
  have L3 := L 3 (by omega)
  have L4 := L 4 (by omega)
  have L5 := L 5 (by omega)
  have z0 : (nI 0 = 0) = True := eq_true (by decide)
  have z1 : (nI 1 = 0) = False := eq_false (by decide)
  clear L
  by_cases q0 : LT (ρ 55) len (p + 0) = a
  · skip
    by_cases q1 : LT (ρ 55) len (p + 1) = b
    · skip
      by_cases q2 : LT (ρ 55) len (p + 2) = c
      · skip
        by_cases q3 : LT (ρ 55) len (p + 3) = d
        · skip
          by_cases q4 : LT (ρ 55) len (p + 4) = e
          · skip
            by_cases q5 : LT (ρ 55) len (p + 5) = nI 0
            · skip
              simp only [c0_X10_isName, e_X10_isName_0, e_X10_isName_5, e_X10_isName_9, e_X10_isName_16, e_X10_isName_20, e_X10_isName_27, e_X10_isName_32, e_X10_isName_36, e_X10_isName_37, e_X10_isName_44, e_X10_isName_49, e_X10_isName_56, e_X10_isName_61, e_X10_isName_65, e_X10_isName_66, e_X10_isName_73, e_X10_isName_78, e_X10_isName_83, e_X10_isName_90, e_X10_isName_95, e_X10_isName_100, e_X10_isName_107, e_X10_isName_110, e_X10_isName_114, e_X10_isName_115, rf_0, rf_1, rf_2, rf_3, rf_4, rf_5, rf_6, rf_7, rf_8, rf_9, rf_10, rf_11, rf_12, rf_13, rf_14, rf_15, rf_16, rf_17, rf_18, rf_19, rf_20, rf_21, rf_22, rf_23, rf_24, rf_25, rf_26, rf_27, rf_28, rf_29, rf_30, rf_31, rf_32, rf_33, rf_34, rp_0, rp_2, rp_5, rp_7, rp_8, rp_9, rp_10, rp_12, rp_16, rp_20, rp_21, rp_22, rp_25, rp_27, rp_30, rp_32, bI_r, bO_some, bF_I, bF_D, bF_C, bC_v, pk_mul, nI_add, Option.toList, List.cons_append, List.nil_append, upd_eq, upr_eq, Nat.reduceEqDiff, reduceIte, L0, L1, L2, L3, L4, L5, q0, q1, q2, q3, q4, q5, hc, hd, he, z0, z1, not_true_eq_false, not_false_eq_true, if_true, if_false, decide_true, decide_false, Bool.true_and, Bool.false_and, Bool.and_true, Bool.and_false]
              exact bI_t (by rfl) _
            · skip
              simp only [c0_X10_isName, e_X10_isName_0, e_X10_isName_5, e_X10_isName_9, e_X10_isName_16, e_X10_isName_20, e_X10_isName_27, e_X10_isName_32, e_X10_isName_36, e_X10_isName_37, e_X10_isName_44, e_X10_isName_49, e_X10_isName_56, e_X10_isName_61, e_X10_isName_65, e_X10_isName_66, e_X10_isName_73, e_X10_isName_78, e_X10_isName_83, e_X10_isName_90, e_X10_isName_95, e_X10_isName_100, e_X10_isName_107, e_X10_isName_110, e_X10_isName_114, e_X10_isName_115, rf_0, rf_1, rf_2, rf_3, rf_4, rf_5, rf_6, rf_7, rf_8, rf_9, rf_10, rf_11, rf_12, rf_13, rf_14, rf_15, rf_16, rf_17, rf_18, rf_19, rf_20, rf_21, rf_22, rf_23, rf_24, rf_25, rf_26, rf_27, rf_28, rf_29, rf_30, rf_31, rf_32, rf_33, rf_34, rp_0, rp_2, rp_5, rp_7, rp_8, rp_9, rp_10, rp_12, rp_16, rp_20, rp_21, rp_22, rp_25, rp_27, rp_30, rp_32, bI_r, bO_some, bF_I, bF_D, bF_C, bC_v, pk_mul, nI_add, Option.toList, List.cons_append, List.nil_append, upd_eq, upr_eq, Nat.reduceEqDiff, reduceIte, L0, L1, L2, L3, L4, L5, q0, q1, q2, q3, q4, q5, (show ¬ LT (ρ 55) len (p + 5) = 0 from q5), hc, hd, he, z0, z1, not_true_eq_false, not_false_eq_true, if_true, if_false, decide_true, decide_false, Bool.true_and, Bool.false_and, Bool.and_true, Bool.and_false]
              exact bI_t (by rfl) _
          · skip
            simp only [c0_X10_isName, e_X10_isName_0, e_X10_isName_5, e_X10_isName_9, e_X10_isName_16, e_X10_isName_20, e_X10_isName_27, e_X10_isName_32, e_X10_isName_36, e_X10_isName_37, e_X10_isName_44, e_X10_isName_49, e_X10_isName_56, e_X10_isName_61, e_X10_isName_65, e_X10_isName_66, e_X10_isName_73, e_X10_isName_78, e_X10_isName_83, e_X10_isName_90, e_X10_isName_95, e_X10_isName_100, e_X10_isName_107, e_X10_isName_110, e_X10_isName_114, e_X10_isName_115, rf_0, rf_1, rf_2, rf_3, rf_4, rf_5, rf_6, rf_7, rf_8, rf_9, rf_10, rf_11, rf_12, rf_13, rf_14, rf_15, rf_16, rf_17, rf_18, rf_19, rf_20, rf_21, rf_22, rf_23, rf_24, rf_25, rf_26, rf_27, rf_28, rf_29, rf_30, rf_31, rf_32, rf_33, rf_34, rp_0, rp_2, rp_5, rp_7, rp_8, rp_9, rp_10, rp_12, rp_16, rp_20, rp_21, rp_22, rp_25, rp_27, rp_30, rp_32, bI_r, bO_some, bF_I, bF_D, bF_C, bC_v, pk_mul, nI_add, Option.toList, List.cons_append, List.nil_append, upd_eq, upr_eq, Nat.reduceEqDiff, reduceIte, L0, L1, L2, L3, L4, L5, q0, q1, q2, q3, q4, hc, hd, he, z0, z1, not_true_eq_false, not_false_eq_true, if_true, if_false, decide_true, decide_false, Bool.true_and, Bool.false_and, Bool.and_true, Bool.and_false]
            exact bI_t (by rfl) _
        · skip
          simp only [c0_X10_isName, e_X10_isName_0, e_X10_isName_5, e_X10_isName_9, e_X10_isName_16, e_X10_isName_20, e_X10_isName_27, e_X10_isName_32, e_X10_isName_36, e_X10_isName_37, e_X10_isName_44, e_X10_isName_49, e_X10_isName_56, e_X10_isName_61, e_X10_isName_65, e_X10_isName_66, e_X10_isName_73, e_X10_isName_78, e_X10_isName_83, e_X10_isName_90, e_X10_isName_95, e_X10_isName_100, e_X10_isName_107, e_X10_isName_110, e_X10_isName_114, e_X10_isName_115, rf_0, rf_1, rf_2, rf_3, rf_4, rf_5, rf_6, rf_7, rf_8, rf_9, rf_10, rf_11, rf_12, rf_13, rf_14, rf_15, rf_16, rf_17, rf_18, rf_19, rf_20, rf_21, rf_22, rf_23, rf_24, rf_25, rf_26, rf_27, rf_28, rf_29, rf_30, rf_31, rf_32, rf_33, rf_34, rp_0, rp_2, rp_5, rp_7, rp_8, rp_9, rp_10, rp_12, rp_16, rp_20, rp_21, rp_22, rp_25, rp_27, rp_30, rp_32, bI_r, bO_some, bF_I, bF_D, bF_C, bC_v, pk_mul, nI_add, Option.toList, List.cons_append, List.nil_append, upd_eq, upr_eq, Nat.reduceEqDiff, reduceIte, L0, L1, L2, L3, L4, L5, q0, q1, q2, q3, hc, hd, he, z0, z1, not_true_eq_false, not_false_eq_true, if_true, if_false, decide_true, decide_false, Bool.true_and, Bool.false_and, Bool.and_true, Bool.and_false]
          exact bI_t (by rfl) _
      · skip
        simp only [c0_X10_isName, e_X10_isName_0, e_X10_isName_5, e_X10_isName_9, e_X10_isName_16, e_X10_isName_20, e_X10_isName_27, e_X10_isName_32, e_X10_isName_36, e_X10_isName_37, e_X10_isName_44, e_X10_isName_49, e_X10_isName_56, e_X10_isName_61, e_X10_isName_65, e_X10_isName_66, e_X10_isName_73, e_X10_isName_78, e_X10_isName_83, e_X10_isName_90, e_X10_isName_95, e_X10_isName_100, e_X10_isName_107, e_X10_isName_110, e_X10_isName_114, e_X10_isName_115, rf_0, rf_1, rf_2, rf_3, rf_4, rf_5, rf_6, rf_7, rf_8, rf_9, rf_10, rf_11, rf_12, rf_13, rf_14, rf_15, rf_16, rf_17, rf_18, rf_19, rf_20, rf_21, rf_22, rf_23, rf_24, rf_25, rf_26, rf_27, rf_28, rf_29, rf_30, rf_31, rf_32, rf_33, rf_34, rp_0, rp_2, rp_5, rp_7, rp_8, rp_9, rp_10, rp_12, rp_16, rp_20, rp_21, rp_22, rp_25, rp_27, rp_30, rp_32, bI_r, bO_some, bF_I, bF_D, bF_C, bC_v, pk_mul, nI_add, Option.toList, List.cons_append, List.nil_append, upd_eq, upr_eq, Nat.reduceEqDiff, reduceIte, L0, L1, L2, L3, L4, L5, q0, q1, q2, hc, hd, he, z0, z1, not_true_eq_false, not_false_eq_true, if_true, if_false, decide_true, decide_false, Bool.true_and, Bool.false_and, Bool.and_true, Bool.and_false]
        exact bI_t (by rfl) _
    · skip
      simp only [c0_X10_isName, e_X10_isName_0, e_X10_isName_5, e_X10_isName_9, e_X10_isName_16, e_X10_isName_20, e_X10_isName_27, e_X10_isName_32, e_X10_isName_36, e_X10_isName_37, e_X10_isName_44, e_X10_isName_49, e_X10_isName_56, e_X10_isName_61, e_X10_isName_65, e_X10_isName_66, e_X10_isName_73, e_X10_isName_78, e_X10_isName_83, e_X10_isName_90, e_X10_isName_95, e_X10_isName_100, e_X10_isName_107, e_X10_isName_110, e_X10_isName_114, e_X10_isName_115, rf_0, rf_1, rf_2, rf_3, rf_4, rf_5, rf_6, rf_7, rf_8, rf_9, rf_10, rf_11, rf_12, rf_13, rf_14, rf_15, rf_16, rf_17, rf_18, rf_19, rf_20, rf_21, rf_22, rf_23, rf_24, rf_25, rf_26, rf_27, rf_28, rf_29, rf_30, rf_31, rf_32, rf_33, rf_34, rp_0, rp_2, rp_5, rp_7, rp_8, rp_9, rp_10, rp_12, rp_16, rp_20, rp_21, rp_22, rp_25, rp_27, rp_30, rp_32, bI_r, bO_some, bF_I, bF_D, bF_C, bC_v, pk_mul, nI_add, Option.toList, List.cons_append, List.nil_append, upd_eq, upr_eq, Nat.reduceEqDiff, reduceIte, L0, L1, L2, L3, L4, L5, q0, q1, hc, hd, he, z0, z1, not_true_eq_false, not_false_eq_true, if_true, if_false, decide_true, decide_false, Bool.true_and, Bool.false_and, Bool.and_true, Bool.and_false]
      exact bI_t (by rfl) _
  · skip
    simp only [c0_X10_isName, e_X10_isName_0, e_X10_isName_5, e_X10_isName_9, e_X10_isName_16, e_X10_isName_20, e_X10_isName_27, e_X10_isName_32, e_X10_isName_36, e_X10_isName_37, e_X10_isName_44, e_X10_isName_49, e_X10_isName_56, e_X10_isName_61, e_X10_isName_65, e_X10_isName_66, e_X10_isName_73, e_X10_isName_78, e_X10_isName_83, e_X10_isName_90, e_X10_isName_95, e_X10_isName_100, e_X10_isName_107, e_X10_isName_110, e_X10_isName_114, e_X10_isName_115, rf_0, rf_1, rf_2, rf_3, rf_4, rf_5, rf_6, rf_7, rf_8, rf_9, rf_10, rf_11, rf_12, rf_13, rf_14, rf_15, rf_16, rf_17, rf_18, rf_19, rf_20, rf_21, rf_22, rf_23, rf_24, rf_25, rf_26, rf_27, rf_28, rf_29, rf_30, rf_31, rf_32, rf_33, rf_34, rp_0, rp_2, rp_5, rp_7, rp_8, rp_9, rp_10, rp_12, rp_16, rp_20, rp_21, rp_22, rp_25, rp_27, rp_30, rp_32, bI_r, bO_some, bF_I, bF_D, bF_C, bC_v, pk_mul, nI_add, Option.toList, List.cons_append, List.nil_append, upd_eq, upr_eq, Nat.reduceEqDiff, reduceIte, L0, L1, L2, L3, L4, L5, q0, hc, hd, he, z0, z1, not_true_eq_false, not_false_eq_true, if_true, if_false, decide_true, decide_false, Bool.true_and, Bool.false_and, Bool.and_true, Bool.and_false]
    exact bI_t (by rfl) _
theorem r_kindAt (h8 : φ 8 = nI len) (hl : len ≤ 120) (hp : p ≤ len) : Call sc n_X10_kindAt [aD 51, aI (nI p)] (rh h φ ρ) = some (.inl (some (aI (enc (knX (ρ 55) len p)))), rh h φ ρ) := by
  have M11 : mtX (ρ 55) len p 11 = nmB (ρ 55) len p 11 := mt_nm (by omega) hp
  have N11 : Call sc n_X10_isName [aD 51, aI (nI p), aI (nI 104), aI (nI 97), aI (nI 108), aI (nI 116), aI (nI 0)] (rh h φ ρ) = some (.inl (some (aI (zI (mtX (ρ 55) len p 11)))), rh h φ ρ) := by
    rw [M11]
    exact isN4 (a := nI 104) (b := nI 97) h8 hl (by omega) (show ¬ nI 108 = 0 from by decide) (show ¬ nI 116 = 0 from by decide)
  have T11 : Run sc n_X10_kindAt 211 [aD 51, aI (nI p)] none [] (rh h φ ρ) = some (.inl (some (aI (enc (fkX (ρ 55) len p 1 11)))), rh h φ ρ) := by
    show _ = (some (.inl (some (aI (enc (if mtX (ρ 55) len p 11 = true then some 11 else fkX (ρ 55) len p 0 12)))), rh h φ ρ) : Option Res)
    rw [e_X10_kindAt_211, bI_r, N11, bC_v]
    cases mtX (ρ 55) len p 11
    · simp only [e_X10_kindAt_225, e_X10_kindAt_233, e_X10_kindAt_234, bO_some, bF_I, bF_D, bF_C, bC_v, pk_mul, nI_add, Option.toList, List.cons_append, List.nil_append, zI_0, if_true, if_false, eq_self, not_true_eq_false, not_false_eq_true, reduceCtorEq]
      rfl
    · simp only [e_X10_kindAt_225, e_X10_kindAt_228, e_X10_kindAt_234, bO_some, bF_I, bF_D, bF_C, bC_v, pk_mul, nI_add, Option.toList, List.cons_append, List.nil_append, zI_0, if_true, if_false, eq_self, not_true_eq_false, not_false_eq_true, reduceCtorEq, enc]
  have M10 : mtX (ρ 55) len p 10 = nmB (ρ 55) len p 10 := mt_nm (by omega) hp
  have N10 : Call sc n_X10_isName [aD 51, aI (nI p), aI (nI 106), aI (nI 117), aI (nI 109), aI (nI 112), aI (nI 0)] (rh h φ ρ) = some (.inl (some (aI (zI (mtX (ρ 55) len p 10)))), rh h φ ρ) := by
    rw [M10]
    exact isN4 (a := nI 106) (b := nI 117) h8 hl (by omega) (show ¬ nI 109 = 0 from by decide) (show ¬ nI 112 = 0 from by decide)
  have T10 : Run sc n_X10_kindAt 191 [aD 51, aI (nI p)] none [] (rh h φ ρ) = some (.inl (some (aI (enc (fkX (ρ 55) len p 2 10)))), rh h φ ρ) := by
    show _ = (some (.inl (some (aI (enc (if mtX (ρ 55) len p 10 = true then some 10 else fkX (ρ 55) len p 1 11)))), rh h φ ρ) : Option Res)
    rw [e_X10_kindAt_191, bI_r, N10, bC_v]
    cases mtX (ρ 55) len p 10
    · simp only [e_X10_kindAt_205, bO_some, bF_I, bF_D, bF_C, bC_v, pk_mul, nI_add, Option.toList, List.cons_append, List.nil_append, zI_0, if_true, if_false, eq_self, not_true_eq_false, not_false_eq_true, reduceCtorEq, T11]
    · simp only [e_X10_kindAt_205, e_X10_kindAt_208, bO_some, bF_I, bF_D, bF_C, bC_v, pk_mul, nI_add, Option.toList, List.cons_append, List.nil_append, zI_0, if_true, if_false, eq_self, not_true_eq_false, not_false_eq_true, reduceCtorEq, enc]
  have M9 : mtX (ρ 55) len p 9 = nmB (ρ 55) len p 9 := mt_nm (by omega) hp
  have N9 : Call sc n_X10_isName [aD 51, aI (nI p), aI (nI 108), aI (nI 101), aI (nI 115), aI (nI 115), aI (nI 0)] (rh h φ ρ) = some (.inl (some (aI (zI (mtX (ρ 55) len p 9)))), rh h φ ρ) := by
    rw [M9]
    exact isN4 (a := nI 108) (b := nI 101) h8 hl (by omega) (show ¬ nI 115 = 0 from by decide) (show ¬ nI 115 = 0 from by decide)
  have T9 : Run sc n_X10_kindAt 171 [aD 51, aI (nI p)] none [] (rh h φ ρ) = some (.inl (some (aI (enc (fkX (ρ 55) len p 3 9)))), rh h φ ρ) := by
    show _ = (some (.inl (some (aI (enc (if mtX (ρ 55) len p 9 = true then some 9 else fkX (ρ 55) len p 2 10)))), rh h φ ρ) : Option Res)
    rw [e_X10_kindAt_171, bI_r, N9, bC_v]
    cases mtX (ρ 55) len p 9
    · simp only [e_X10_kindAt_185, bO_some, bF_I, bF_D, bF_C, bC_v, pk_mul, nI_add, Option.toList, List.cons_append, List.nil_append, zI_0, if_true, if_false, eq_self, not_true_eq_false, not_false_eq_true, reduceCtorEq, T10]
    · simp only [e_X10_kindAt_185, e_X10_kindAt_188, bO_some, bF_I, bF_D, bF_C, bC_v, pk_mul, nI_add, Option.toList, List.cons_append, List.nil_append, zI_0, if_true, if_false, eq_self, not_true_eq_false, not_false_eq_true, reduceCtorEq, enc]
  have M8 : mtX (ρ 55) len p 8 = nmB (ρ 55) len p 8 := mt_nm (by omega) hp
  have N8 : Call sc n_X10_isName [aD 51, aI (nI p), aI (nI 101), aI (nI 113), aI (nI 117), aI (nI 97), aI (nI 108)] (rh h φ ρ) = some (.inl (some (aI (zI (mtX (ρ 55) len p 8)))), rh h φ ρ) := by
    rw [M8]
    exact isN5 (a := nI 101) (b := nI 113) h8 hl (by omega) (show ¬ nI 117 = 0 from by decide) (show ¬ nI 97 = 0 from by decide) (show ¬ nI 108 = 0 from by decide)
  have T8 : Run sc n_X10_kindAt 150 [aD 51, aI (nI p)] none [] (rh h φ ρ) = some (.inl (some (aI (enc (fkX (ρ 55) len p 4 8)))), rh h φ ρ) := by
    show _ = (some (.inl (some (aI (enc (if mtX (ρ 55) len p 8 = true then some 8 else fkX (ρ 55) len p 3 9)))), rh h φ ρ) : Option Res)
    rw [e_X10_kindAt_150, bI_r, N8, bC_v]
    cases mtX (ρ 55) len p 8
    · simp only [e_X10_kindAt_165, bO_some, bF_I, bF_D, bF_C, bC_v, pk_mul, nI_add, Option.toList, List.cons_append, List.nil_append, zI_0, if_true, if_false, eq_self, not_true_eq_false, not_false_eq_true, reduceCtorEq, T9]
    · simp only [e_X10_kindAt_165, e_X10_kindAt_168, bO_some, bF_I, bF_D, bF_C, bC_v, pk_mul, nI_add, Option.toList, List.cons_append, List.nil_append, zI_0, if_true, if_false, eq_self, not_true_eq_false, not_false_eq_true, reduceCtorEq, enc]
  have M7 : mtX (ρ 55) len p 7 = nmB (ρ 55) len p 7 := mt_nm (by omega) hp
  have N7 : Call sc n_X10_isName [aD 51, aI (nI p), aI (nI 111), aI (nI 117), aI (nI 116), aI (nI 0), aI (nI 0)] (rh h φ ρ) = some (.inl (some (aI (zI (mtX (ρ 55) len p 7)))), rh h φ ρ) := by
    rw [M7]
    exact isN3 (a := nI 111) (b := nI 117) h8 hl (by omega) (show ¬ nI 116 = 0 from by decide)
  have T7 : Run sc n_X10_kindAt 131 [aD 51, aI (nI p)] none [] (rh h φ ρ) = some (.inl (some (aI (enc (fkX (ρ 55) len p 5 7)))), rh h φ ρ) := by
    show _ = (some (.inl (some (aI (enc (if mtX (ρ 55) len p 7 = true then some 7 else fkX (ρ 55) len p 4 8)))), rh h φ ρ) : Option Res)
    rw [e_X10_kindAt_131, bI_r, N7, bC_v]
    cases mtX (ρ 55) len p 7
    · simp only [e_X10_kindAt_144, bO_some, bF_I, bF_D, bF_C, bC_v, pk_mul, nI_add, Option.toList, List.cons_append, List.nil_append, zI_0, if_true, if_false, eq_self, not_true_eq_false, not_false_eq_true, reduceCtorEq, T8]
    · simp only [e_X10_kindAt_144, e_X10_kindAt_147, bO_some, bF_I, bF_D, bF_C, bC_v, pk_mul, nI_add, Option.toList, List.cons_append, List.nil_append, zI_0, if_true, if_false, eq_self, not_true_eq_false, not_false_eq_true, reduceCtorEq, enc]
  have M6 : mtX (ρ 55) len p 6 = nmB (ρ 55) len p 6 := mt_nm (by omega) hp
  have N6 : Call sc n_X10_isName [aD 51, aI (nI p), aI (nI 115), aI (nI 116), aI (nI 111), aI (nI 114), aI (nI 101)] (rh h φ ρ) = some (.inl (some (aI (zI (mtX (ρ 55) len p 6)))), rh h φ ρ) := by
    rw [M6]
    exact isN5 (a := nI 115) (b := nI 116) h8 hl (by omega) (show ¬ nI 111 = 0 from by decide) (show ¬ nI 114 = 0 from by decide) (show ¬ nI 101 = 0 from by decide)
  have T6 : Run sc n_X10_kindAt 110 [aD 51, aI (nI p)] none [] (rh h φ ρ) = some (.inl (some (aI (enc (fkX (ρ 55) len p 6 6)))), rh h φ ρ) := by
    show _ = (some (.inl (some (aI (enc (if mtX (ρ 55) len p 6 = true then some 6 else fkX (ρ 55) len p 5 7)))), rh h φ ρ) : Option Res)
    rw [e_X10_kindAt_110, bI_r, N6, bC_v]
    cases mtX (ρ 55) len p 6
    · simp only [e_X10_kindAt_125, bO_some, bF_I, bF_D, bF_C, bC_v, pk_mul, nI_add, Option.toList, List.cons_append, List.nil_append, zI_0, if_true, if_false, eq_self, not_true_eq_false, not_false_eq_true, reduceCtorEq, T7]
    · simp only [e_X10_kindAt_125, e_X10_kindAt_128, bO_some, bF_I, bF_D, bF_C, bC_v, pk_mul, nI_add, Option.toList, List.cons_append, List.nil_append, zI_0, if_true, if_false, eq_self, not_true_eq_false, not_false_eq_true, reduceCtorEq, enc]
  have M5 : mtX (ρ 55) len p 5 = nmB (ρ 55) len p 5 := mt_nm (by omega) hp
  have N5 : Call sc n_X10_isName [aD 51, aI (nI p), aI (nI 108), aI (nI 111), aI (nI 97), aI (nI 100), aI (nI 0)] (rh h φ ρ) = some (.inl (some (aI (zI (mtX (ρ 55) len p 5)))), rh h φ ρ) := by
    rw [M5]
    exact isN4 (a := nI 108) (b := nI 111) h8 hl (by omega) (show ¬ nI 97 = 0 from by decide) (show ¬ nI 100 = 0 from by decide)
  have T5 : Run sc n_X10_kindAt 91 [aD 51, aI (nI p)] none [] (rh h φ ρ) = some (.inl (some (aI (enc (fkX (ρ 55) len p 7 5)))), rh h φ ρ) := by
    show _ = (some (.inl (some (aI (enc (if mtX (ρ 55) len p 5 = true then some 5 else fkX (ρ 55) len p 6 6)))), rh h φ ρ) : Option Res)
    rw [e_X10_kindAt_91, bI_r, N5, bC_v]
    cases mtX (ρ 55) len p 5
    · simp only [e_X10_kindAt_105, bO_some, bF_I, bF_D, bF_C, bC_v, pk_mul, nI_add, Option.toList, List.cons_append, List.nil_append, zI_0, if_true, if_false, eq_self, not_true_eq_false, not_false_eq_true, reduceCtorEq, T6]
    · simp only [e_X10_kindAt_105, e_X10_kindAt_108, bO_some, bF_I, bF_D, bF_C, bC_v, pk_mul, nI_add, Option.toList, List.cons_append, List.nil_append, zI_0, if_true, if_false, eq_self, not_true_eq_false, not_false_eq_true, reduceCtorEq, enc]
  have M4 : mtX (ρ 55) len p 4 = nmB (ρ 55) len p 4 := mt_nm (by omega) hp
  have N4 : Call sc n_X10_isName [aD 51, aI (nI p), aI (nI 115), aI (nI 117), aI (nI 98), aI (nI 0), aI (nI 0)] (rh h φ ρ) = some (.inl (some (aI (zI (mtX (ρ 55) len p 4)))), rh h φ ρ) := by
    rw [M4]
    exact isN3 (a := nI 115) (b := nI 117) h8 hl (by omega) (show ¬ nI 98 = 0 from by decide)
  have T4 : Run sc n_X10_kindAt 73 [aD 51, aI (nI p)] none [] (rh h φ ρ) = some (.inl (some (aI (enc (fkX (ρ 55) len p 8 4)))), rh h φ ρ) := by
    show _ = (some (.inl (some (aI (enc (if mtX (ρ 55) len p 4 = true then some 4 else fkX (ρ 55) len p 7 5)))), rh h φ ρ) : Option Res)
    rw [e_X10_kindAt_73, bI_r, N4, bC_v]
    cases mtX (ρ 55) len p 4
    · simp only [e_X10_kindAt_86, bO_some, bF_I, bF_D, bF_C, bC_v, pk_mul, nI_add, Option.toList, List.cons_append, List.nil_append, zI_0, if_true, if_false, eq_self, not_true_eq_false, not_false_eq_true, reduceCtorEq, T5]
    · simp only [e_X10_kindAt_86, e_X10_kindAt_89, bO_some, bF_I, bF_D, bF_C, bC_v, pk_mul, nI_add, Option.toList, List.cons_append, List.nil_append, zI_0, if_true, if_false, eq_self, not_true_eq_false, not_false_eq_true, reduceCtorEq, enc]
  have M3 : mtX (ρ 55) len p 3 = nmB (ρ 55) len p 3 := mt_nm (by omega) hp
  have N3 : Call sc n_X10_isName [aD 51, aI (nI p), aI (nI 97), aI (nI 100), aI (nI 100), aI (nI 0), aI (nI 0)] (rh h φ ρ) = some (.inl (some (aI (zI (mtX (ρ 55) len p 3)))), rh h φ ρ) := by
    rw [M3]
    exact isN3 (a := nI 97) (b := nI 100) h8 hl (by omega) (show ¬ nI 100 = 0 from by decide)
  have T3 : Run sc n_X10_kindAt 55 [aD 51, aI (nI p)] none [] (rh h φ ρ) = some (.inl (some (aI (enc (fkX (ρ 55) len p 9 3)))), rh h φ ρ) := by
    show _ = (some (.inl (some (aI (enc (if mtX (ρ 55) len p 3 = true then some 3 else fkX (ρ 55) len p 8 4)))), rh h φ ρ) : Option Res)
    rw [e_X10_kindAt_55, bI_r, N3, bC_v]
    cases mtX (ρ 55) len p 3
    · simp only [e_X10_kindAt_68, bO_some, bF_I, bF_D, bF_C, bC_v, pk_mul, nI_add, Option.toList, List.cons_append, List.nil_append, zI_0, if_true, if_false, eq_self, not_true_eq_false, not_false_eq_true, reduceCtorEq, T4]
    · simp only [e_X10_kindAt_68, e_X10_kindAt_71, bO_some, bF_I, bF_D, bF_C, bC_v, pk_mul, nI_add, Option.toList, List.cons_append, List.nil_append, zI_0, if_true, if_false, eq_self, not_true_eq_false, not_false_eq_true, reduceCtorEq, enc]
  have M2 : mtX (ρ 55) len p 2 = nmB (ρ 55) len p 2 := mt_nm (by omega) hp
  have N2 : Call sc n_X10_isName [aD 51, aI (nI p), aI (nI 99), aI (nI 111), aI (nI 112), aI (nI 121), aI (nI 0)] (rh h φ ρ) = some (.inl (some (aI (zI (mtX (ρ 55) len p 2)))), rh h φ ρ) := by
    rw [M2]
    exact isN4 (a := nI 99) (b := nI 111) h8 hl (by omega) (show ¬ nI 112 = 0 from by decide) (show ¬ nI 121 = 0 from by decide)
  have T2 : Run sc n_X10_kindAt 36 [aD 51, aI (nI p)] none [] (rh h φ ρ) = some (.inl (some (aI (enc (fkX (ρ 55) len p 10 2)))), rh h φ ρ) := by
    show _ = (some (.inl (some (aI (enc (if mtX (ρ 55) len p 2 = true then some 2 else fkX (ρ 55) len p 9 3)))), rh h φ ρ) : Option Res)
    rw [e_X10_kindAt_36, bI_r, N2, bC_v]
    cases mtX (ρ 55) len p 2
    · simp only [e_X10_kindAt_50, bO_some, bF_I, bF_D, bF_C, bC_v, pk_mul, nI_add, Option.toList, List.cons_append, List.nil_append, zI_0, if_true, if_false, eq_self, not_true_eq_false, not_false_eq_true, reduceCtorEq, T3]
    · simp only [e_X10_kindAt_50, e_X10_kindAt_53, bO_some, bF_I, bF_D, bF_C, bC_v, pk_mul, nI_add, Option.toList, List.cons_append, List.nil_append, zI_0, if_true, if_false, eq_self, not_true_eq_false, not_false_eq_true, reduceCtorEq, enc]
  have M1 : mtX (ρ 55) len p 1 = nmB (ρ 55) len p 1 := mt_nm (by omega) hp
  have N1 : Call sc n_X10_isName [aD 51, aI (nI p), aI (nI 115), aI (nI 101), aI (nI 116), aI (nI 0), aI (nI 0)] (rh h φ ρ) = some (.inl (some (aI (zI (mtX (ρ 55) len p 1)))), rh h φ ρ) := by
    rw [M1]
    exact isN3 (a := nI 115) (b := nI 101) h8 hl (by omega) (show ¬ nI 116 = 0 from by decide)
  have T1 : Run sc n_X10_kindAt 18 [aD 51, aI (nI p)] none [] (rh h φ ρ) = some (.inl (some (aI (enc (fkX (ρ 55) len p 11 1)))), rh h φ ρ) := by
    show _ = (some (.inl (some (aI (enc (if mtX (ρ 55) len p 1 = true then some 1 else fkX (ρ 55) len p 10 2)))), rh h φ ρ) : Option Res)
    rw [e_X10_kindAt_18, bI_r, N1, bC_v]
    cases mtX (ρ 55) len p 1
    · simp only [e_X10_kindAt_31, bO_some, bF_I, bF_D, bF_C, bC_v, pk_mul, nI_add, Option.toList, List.cons_append, List.nil_append, zI_0, if_true, if_false, eq_self, not_true_eq_false, not_false_eq_true, reduceCtorEq, T2]
    · simp only [e_X10_kindAt_31, e_X10_kindAt_34, bO_some, bF_I, bF_D, bF_C, bC_v, pk_mul, nI_add, Option.toList, List.cons_append, List.nil_append, zI_0, if_true, if_false, eq_self, not_true_eq_false, not_false_eq_true, reduceCtorEq, enc]
  have M0 : mtX (ρ 55) len p 0 = nmB (ρ 55) len p 0 := mt_nm (by omega) hp
  have N0 : Call sc n_X10_isName [aD 51, aI (nI p), aI (nI 110), aI (nI 111), aI (nI 112), aI (nI 0), aI (nI 0)] (rh h φ ρ) = some (.inl (some (aI (zI (mtX (ρ 55) len p 0)))), rh h φ ρ) := by
    rw [M0]
    exact isN3 (a := nI 110) (b := nI 111) h8 hl (by omega) (show ¬ nI 112 = 0 from by decide)
  have T0 : Run sc n_X10_kindAt 0 [aD 51, aI (nI p)] none [] (rh h φ ρ) = some (.inl (some (aI (enc (fkX (ρ 55) len p 12 0)))), rh h φ ρ) := by
    show _ = (some (.inl (some (aI (enc (if mtX (ρ 55) len p 0 = true then some 0 else fkX (ρ 55) len p 11 1)))), rh h φ ρ) : Option Res)
    rw [e_X10_kindAt_0, bI_r, N0, bC_v]
    cases mtX (ρ 55) len p 0
    · simp only [e_X10_kindAt_13, bO_some, bF_I, bF_D, bF_C, bC_v, pk_mul, nI_add, Option.toList, List.cons_append, List.nil_append, zI_0, if_true, if_false, eq_self, not_true_eq_false, not_false_eq_true, reduceCtorEq, T1]
    · simp only [e_X10_kindAt_13, e_X10_kindAt_16, bO_some, bF_I, bF_D, bF_C, bC_v, pk_mul, nI_add, Option.toList, List.cons_append, List.nil_append, zI_0, if_true, if_false, eq_self, not_true_eq_false, not_false_eq_true, reduceCtorEq, enc]
  rw [c0_X10_kindAt]
  exact T0
end
