/-! PURE 59: the reference: ranges, the text -/
theorem le78 (v : Int32) : (nI 8 ≤ v) = ¬ v ≤ nI 7 := by
  have a1 : (nI 8).toInt = 8 := by decide
  have a2 : (nI 7).toInt = 7 := by decide
  apply propext
  rw [Int32.le_iff_toInt_le, Int32.le_iff_toInt_le, a1, a2]
  omega
theorem isInle {a b : Nat} (ha : a < 2 ^ 31) (hb : b < 2 ^ 31) : decide (¬ nI a < nI 0 ∧ ¬ nI b < nI a) = decide (nI a ≤ nI b) := by
  have h1 : ¬ nI a < nI 0 := nI_pos ha
  rw [decide_eq_decide]
  constructor
  · intro h2
    exact Int32.not_lt.mp h2.2
  · intro h2
    exact ⟨h1, Int32.not_lt.mpr h2⟩
def ctB (m k : Nat) (v : Int32) : Bool := decide (v ≤ gtX m ((fL k).getD 2 0))
theorem irI_eq {X : Nat → Nat → Int32} {m i : Nat} (hk : kx X i < 12) : irI X m i = (ctB m (kx X i) (X i 3) && (decide (X i 1 ≤ nI 7) && decide (X i 2 ≤ nI 7))) := by
  have h1 : gtX m ((fL (kx X i)).getD 0 0) = nI 7 := by
    rcases twelve hk with h | h | h | h | h | h | h | h | h | h | h | h <;> rw [h] <;> rfl
  have h2 : gtX m ((fL (kx X i)).getD 1 0) = nI 7 := by
    rcases twelve hk with h | h | h | h | h | h | h | h | h | h | h | h <;> rw [h] <;> rfl
  have h3 : irI X m i = (decide (X i 1 ≤ gtX m ((fL (kx X i)).getD 0 0)) && (decide (X i 2 ≤ gtX m ((fL (kx X i)).getD 1 0)) && (decide (X i 3 ≤ gtX m ((fL (kx X i)).getD 2 0)) && true))) := rfl
  rw [h3, h1, h2]
  unfold ctB
  cases decide (X i 1 ≤ nI 7) <;> cases decide (X i 2 ≤ nI 7) <;> cases decide (X i 3 ≤ gtX m ((fL (kx X i)).getD 2 0)) <;> rfl
theorem neg_le99 : ∀ a, a < 100 → -(nI a) ≤ nI 99 ∧ nI a ≤ nI 99 := by decide +kernel
section
variable {sc : SC} {h : AH} {φ : Nat → Int32} {ρ : Nat → Nat → Int32} {len j p pos m k i f : Nat} {ft : Option Nat} {v x1 x : Int32}
theorem r_isGood (hm : m ≤ 30) (h12 : φ 12 = nI m) (hi : i < m) (hg : GR (xS m (ρ 56)) i) : Call sc n_X10_isGood [aD 51, aI (nI (4 * i))] (rh h φ ρ) = some (.inl (some (aI (zI (irI (xS m (ρ 56)) m i)))), rh h φ ρ) := by
  obtain ⟨⟨hk0, hk⟩, hv, _⟩ := hg
  have h2 := hv 2 (by omega)
  rw [irI_eq hk]
  have p0 : ρ 56 (4 * i) = nI (kx (xS m (ρ 56)) i) := (xS_at hi (show 0 < 4 by omega)).trans hk0
  have p1 := xS_at (s := ρ 56) hi (show 1 < 4 by omega)
  have p2 := xS_at (s := ρ 56) hi (show 2 < 4 by omega)
  have p3 := xS_at (s := ρ 56) hi (show 3 < 4 by omega)
  have r0 := rl_57 (sc := sc) (h := h) (φ := φ) (ρ := ρ) (show 4 * i < 244 by omega)
  have r1 := rl_57 (sc := sc) (h := h) (φ := φ) (ρ := ρ) (show 4 * i + 1 < 244 by omega)
  have r2 := rl_57 (sc := sc) (h := h) (φ := φ) (ρ := ρ) (show 4 * i + 2 < 244 by omega)
  have r3 := rl_57 (sc := sc) (h := h) (φ := φ) (ρ := ρ) (show 4 * i + 3 < 244 by omega)
  rw [p0] at r0
  rw [p1] at r1
  rw [p2] at r2
  rw [p3] at r3
  have b1 : ∀ b r, bI (retK (some FieldType.boolean) (zI b) = true) r = r := fun b r => bI_t (zI_ret b) r
  have T89 : ∀ (cb : Bool) (k : Nat) v3, Run sc n_X10_isGood 89 [aD 51, aI (nI (4 * i)), aI (nI k), v3] none [aI (zI cb)] (rh h φ ρ) = some (.inl (some (aI (zI (cb && (decide (xS m (ρ 56) i 1 ≤ nI 7) && decide (xS m (ρ 56) i 2 ≤ nI 7)))))), rh h φ ρ) := by
    intro cb k v3
    cases cb
    · simp only [e_X10_isGood_89, e_X10_isGood_124, e_X10_isGood_125, zI_0, if_true, if_false, eq_self, not_true_eq_false, not_false_eq_true, Bool.false_and]
      exact b1 false _
    · simp only [e_X10_isGood_89, e_X10_isGood_94, e_X10_isGood_98, e_X10_isGood_102, rf_0, rf_1, rf_2, rf_3, rf_4, rf_5, rf_6, rf_7, rf_8, rf_9, rf_10, rf_11, rf_12, rf_13, rf_14, rf_15, rf_16, rf_17, rf_18, rf_19, rf_20, rf_21, rf_22, rf_23, rf_24, rf_25, rf_26, rf_27, rf_28, rf_29, rf_30, rf_31, rf_32, rf_33, rf_34, rp_0, rp_2, rp_5, rp_7, rp_8, rp_9, rp_10, rp_12, rp_16, rp_20, rp_21, rp_22, rp_25, rp_27, rp_30, rp_32, bI_r, bO_some, bF_I, bF_D, bF_C, bC_v, pk_mul, nI_add, Option.toList, List.cons_append, List.nil_append, upd_eq, upr_eq, Nat.reduceEqDiff, reduceIte, zI_0, if_true, if_false, eq_self, not_true_eq_false, not_false_eq_true, reduceCtorEq, r1, le78, Bool.true_and]
      by_cases q1 : xS m (ρ 56) i 1 ≤ nI 7
      · simp only [q1, e_X10_isGood_107, e_X10_isGood_111, e_X10_isGood_115, rf_0, rf_1, rf_2, rf_3, rf_4, rf_5, rf_6, rf_7, rf_8, rf_9, rf_10, rf_11, rf_12, rf_13, rf_14, rf_15, rf_16, rf_17, rf_18, rf_19, rf_20, rf_21, rf_22, rf_23, rf_24, rf_25, rf_26, rf_27, rf_28, rf_29, rf_30, rf_31, rf_32, rf_33, rf_34, rp_0, rp_2, rp_5, rp_7, rp_8, rp_9, rp_10, rp_12, rp_16, rp_20, rp_21, rp_22, rp_25, rp_27, rp_30, rp_32, bI_r, bO_some, bF_I, bF_D, bF_C, bC_v, pk_mul, nI_add, Option.toList, List.cons_append, List.nil_append, upd_eq, upr_eq, Nat.reduceEqDiff, reduceIte, zI_0, if_true, if_false, eq_self, not_true_eq_false, not_false_eq_true, r2, le78, decide_true, Bool.true_and]
        by_cases q2 : xS m (ρ 56) i 2 ≤ nI 7
        · simp only [q2, e_X10_isGood_120, e_X10_isGood_125, zI_0, if_true, if_false, eq_self, not_true_eq_false, not_false_eq_true, decide_true]
          exact b1 true _
        · simp only [q2, e_X10_isGood_124, e_X10_isGood_125, zI_0, if_true, if_false, eq_self, not_true_eq_false, not_false_eq_true, decide_false]
          exact b1 false _
      · simp only [q1, e_X10_isGood_124, e_X10_isGood_125, zI_0, if_true, if_false, eq_self, not_true_eq_false, not_false_eq_true, decide_false, Bool.false_and]
        exact b1 false _
  have br := c_isBranch (sc := sc) (h := rh h φ ρ) hk
  generalize kx (xS m (ρ 56)) i = k at *
  generalize xS m (ρ 56) i 3 = v at *
  simp only [c0_X10_isGood, e_X10_isGood_0, e_X10_isGood_4, e_X10_isGood_6, rf_0, rf_1, rf_2, rf_3, rf_4, rf_5, rf_6, rf_7, rf_8, rf_9, rf_10, rf_11, rf_12, rf_13, rf_14, rf_15, rf_16, rf_17, rf_18, rf_19, rf_20, rf_21, rf_22, rf_23, rf_24, rf_25, rf_26, rf_27, rf_28, rf_29, rf_30, rf_31, rf_32, rf_33, rf_34, rp_0, rp_2, rp_5, rp_7, rp_8, rp_9, rp_10, rp_12, rp_16, rp_20, rp_21, rp_22, rp_25, rp_27, rp_30, rp_32, bI_r, bO_some, bF_I, bF_D, bF_C, bC_v, pk_mul, nI_add, Option.toList, List.cons_append, List.nil_append, upd_eq, upr_eq, Nat.reduceEqDiff, reduceIte, r0]
  have TR : ctB m k v = true → Run sc n_X10_isGood 84 [aD 51, aI (nI (4 * i)), aI (nI k), aU] none [] (rh h φ ρ) = some (.inl (some (aI (zI (ctB m k v && (decide (xS m (ρ 56) i 1 ≤ nI 7) && decide (xS m (ρ 56) i 2 ≤ nI 7)))))), rh h φ ρ) := by
    intro z
    rw [z, e_X10_isGood_84]
    exact T89 true k _
  have TD : (fL k).getD 2 0 = nI 45 → ctB m k v = true := by
    intro z
    unfold ctB
    rw [h2.1 z, z, show gtX m (nI 45) = nI 7 from rfl]
    decide
  have t1 : ∀ {a b : Nat}, a < 2 ^ 31 → b < 2 ^ 31 → ((nI a = nI b) = (a = b)) := fun ha hb => eqI ha hb
  have E := @t1 k
  rcases twelve hk with rfl | rfl | rfl | rfl | rfl | rfl | rfl | rfl | rfl | rfl | rfl | rfl
  · have hc := TD rfl
    simp (decide := true) only [e_X10_isGood_12, e_X10_isGood_34, e_X10_isGood_39, e_X10_isGood_62, e_X10_isGood_66, br, rf_0, rf_1, rf_2, rf_3, rf_4, rf_5, rf_6, rf_7, rf_8, rf_9, rf_10, rf_11, rf_12, rf_13, rf_14, rf_15, rf_16, rf_17, rf_18, rf_19, rf_20, rf_21, rf_22, rf_23, rf_24, rf_25, rf_26, rf_27, rf_28, rf_29, rf_30, rf_31, rf_32, rf_33, rf_34, rp_0, rp_2, rp_5, rp_7, rp_8, rp_9, rp_10, rp_12, rp_16, rp_20, rp_21, rp_22, rp_25, rp_27, rp_30, rp_32, bI_r, bO_some, bF_I, bF_D, bF_C, bC_v, pk_mul, nI_add, Option.toList, List.cons_append, List.nil_append, upd_eq, upr_eq, Nat.reduceEqDiff, reduceIte, if_true, if_false]
    exact TR hc
  · have hc : ctB m 1 v = true := by
      obtain ⟨a, ha, h3⟩ := h2.2 (by decide)
      unfold ctB
      have h4 : gtX m ((fL 1).getD 2 0) = nI 99 := rfl
      rw [h4]
      rcases h3 with h3 | ⟨_, h3⟩ <;> rw [h3]
      · exact decide_eq_true (neg_le99 a ha).2
      · exact decide_eq_true (neg_le99 a ha).1
    simp (decide := true) only [e_X10_isGood_12, e_X10_isGood_34, e_X10_isGood_39, e_X10_isGood_62, e_X10_isGood_66, br, rf_0, rf_1, rf_2, rf_3, rf_4, rf_5, rf_6, rf_7, rf_8, rf_9, rf_10, rf_11, rf_12, rf_13, rf_14, rf_15, rf_16, rf_17, rf_18, rf_19, rf_20, rf_21, rf_22, rf_23, rf_24, rf_25, rf_26, rf_27, rf_28, rf_29, rf_30, rf_31, rf_32, rf_33, rf_34, rp_0, rp_2, rp_5, rp_7, rp_8, rp_9, rp_10, rp_12, rp_16, rp_20, rp_21, rp_22, rp_25, rp_27, rp_30, rp_32, bI_r, bO_some, bF_I, bF_D, bF_C, bC_v, pk_mul, nI_add, Option.toList, List.cons_append, List.nil_append, upd_eq, upr_eq, Nat.reduceEqDiff, reduceIte, if_true, if_false]
    exact TR hc
  · have hc := TD rfl
    simp (decide := true) only [e_X10_isGood_12, e_X10_isGood_34, e_X10_isGood_39, e_X10_isGood_62, e_X10_isGood_66, br, rf_0, rf_1, rf_2, rf_3, rf_4, rf_5, rf_6, rf_7, rf_8, rf_9, rf_10, rf_11, rf_12, rf_13, rf_14, rf_15, rf_16, rf_17, rf_18, rf_19, rf_20, rf_21, rf_22, rf_23, rf_24, rf_25, rf_26, rf_27, rf_28, rf_29, rf_30, rf_31, rf_32, rf_33, rf_34, rp_0, rp_2, rp_5, rp_7, rp_8, rp_9, rp_10, rp_12, rp_16, rp_20, rp_21, rp_22, rp_25, rp_27, rp_30, rp_32, bI_r, bO_some, bF_I, bF_D, bF_C, bC_v, pk_mul, nI_add, Option.toList, List.cons_append, List.nil_append, upd_eq, upr_eq, Nat.reduceEqDiff, reduceIte, if_true, if_false]
    exact TR hc
  · obtain ⟨a, ha, h3⟩ := h2.2 (by decide)
    have h4 : v = nI a := by
      rcases h3 with h3 | ⟨h5, _⟩
      · exact h3
      · exact absurd h5 (by decide)
    have hc : decide (¬ v < nI 0 ∧ ¬ nI 7 < v) = ctB m 3 v := by
      rw [h4, isInle (by omega) (by omega)]
      rfl
    simp (decide := true) only [e_X10_isGood_17, e_X10_isGood_21, e_X10_isGood_25, e_X10_isGood_31, rf_0, rf_1, rf_2, rf_3, rf_4, rf_5, rf_6, rf_7, rf_8, rf_9, rf_10, rf_11, rf_12, rf_13, rf_14, rf_15, rf_16, rf_17, rf_18, rf_19, rf_20, rf_21, rf_22, rf_23, rf_24, rf_25, rf_26, rf_27, rf_28, rf_29, rf_30, rf_31, rf_32, rf_33, rf_34, rp_0, rp_2, rp_5, rp_7, rp_8, rp_9, rp_10, rp_12, rp_16, rp_20, rp_21, rp_22, rp_25, rp_27, rp_30, rp_32, bI_r, bO_some, bF_I, bF_D, bF_C, bC_v, pk_mul, nI_add, Option.toList, List.cons_append, List.nil_append, upd_eq, upr_eq, Nat.reduceEqDiff, reduceIte, if_true, if_false, r3, c_isIn, hc]
    exact T89 _ 3 _
  · obtain ⟨a, ha, h3⟩ := h2.2 (by decide)
    have h4 : v = nI a := by
      rcases h3 with h3 | ⟨h5, _⟩
      · exact h3
      · exact absurd h5 (by decide)
    have hc : decide (¬ v < nI 0 ∧ ¬ nI 7 < v) = ctB m 4 v := by
      rw [h4, isInle (by omega) (by omega)]
      rfl
    simp (decide := true) only [e_X10_isGood_12, e_X10_isGood_17, e_X10_isGood_21, e_X10_isGood_25, e_X10_isGood_31, rf_0, rf_1, rf_2, rf_3, rf_4, rf_5, rf_6, rf_7, rf_8, rf_9, rf_10, rf_11, rf_12, rf_13, rf_14, rf_15, rf_16, rf_17, rf_18, rf_19, rf_20, rf_21, rf_22, rf_23, rf_24, rf_25, rf_26, rf_27, rf_28, rf_29, rf_30, rf_31, rf_32, rf_33, rf_34, rp_0, rp_2, rp_5, rp_7, rp_8, rp_9, rp_10, rp_12, rp_16, rp_20, rp_21, rp_22, rp_25, rp_27, rp_30, rp_32, bI_r, bO_some, bF_I, bF_D, bF_C, bC_v, pk_mul, nI_add, Option.toList, List.cons_append, List.nil_append, upd_eq, upr_eq, Nat.reduceEqDiff, reduceIte, if_true, if_false, r3, c_isIn, hc]
    exact T89 _ 4 _
  · obtain ⟨a, ha, h3⟩ := h2.2 (by decide)
    have h4 : v = nI a := by
      rcases h3 with h3 | ⟨h5, _⟩
      · exact h3
      · exact absurd h5 (by decide)
    have hc : decide (¬ v < nI 0 ∧ ¬ nI 15 < v) = ctB m 5 v := by
      rw [h4, isInle (by omega) (by omega)]
      rfl
    simp (decide := true) only [e_X10_isGood_12, e_X10_isGood_34, e_X10_isGood_45, e_X10_isGood_49, e_X10_isGood_53, e_X10_isGood_59, rf_0, rf_1, rf_2, rf_3, rf_4, rf_5, rf_6, rf_7, rf_8, rf_9, rf_10, rf_11, rf_12, rf_13, rf_14, rf_15, rf_16, rf_17, rf_18, rf_19, rf_20, rf_21, rf_22, rf_23, rf_24, rf_25, rf_26, rf_27, rf_28, rf_29, rf_30, rf_31, rf_32, rf_33, rf_34, rp_0, rp_2, rp_5, rp_7, rp_8, rp_9, rp_10, rp_12, rp_16, rp_20, rp_21, rp_22, rp_25, rp_27, rp_30, rp_32, bI_r, bO_some, bF_I, bF_D, bF_C, bC_v, pk_mul, nI_add, Option.toList, List.cons_append, List.nil_append, upd_eq, upr_eq, Nat.reduceEqDiff, reduceIte, if_true, if_false, r3, c_isIn, hc]
    exact T89 _ 5 _
  · obtain ⟨a, ha, h3⟩ := h2.2 (by decide)
    have h4 : v = nI a := by
      rcases h3 with h3 | ⟨h5, _⟩
      · exact h3
      · exact absurd h5 (by decide)
    have hc : decide (¬ v < nI 0 ∧ ¬ nI 15 < v) = ctB m 6 v := by
      rw [h4, isInle (by omega) (by omega)]
      rfl
    simp (decide := true) only [e_X10_isGood_12, e_X10_isGood_34, e_X10_isGood_39, e_X10_isGood_45, e_X10_isGood_49, e_X10_isGood_53, e_X10_isGood_59, rf_0, rf_1, rf_2, rf_3, rf_4, rf_5, rf_6, rf_7, rf_8, rf_9, rf_10, rf_11, rf_12, rf_13, rf_14, rf_15, rf_16, rf_17, rf_18, rf_19, rf_20, rf_21, rf_22, rf_23, rf_24, rf_25, rf_26, rf_27, rf_28, rf_29, rf_30, rf_31, rf_32, rf_33, rf_34, rp_0, rp_2, rp_5, rp_7, rp_8, rp_9, rp_10, rp_12, rp_16, rp_20, rp_21, rp_22, rp_25, rp_27, rp_30, rp_32, bI_r, bO_some, bF_I, bF_D, bF_C, bC_v, pk_mul, nI_add, Option.toList, List.cons_append, List.nil_append, upd_eq, upr_eq, Nat.reduceEqDiff, reduceIte, if_true, if_false, r3, c_isIn, hc]
    exact T89 _ 6 _
  · have hc := TD rfl
    simp (decide := true) only [e_X10_isGood_12, e_X10_isGood_34, e_X10_isGood_39, e_X10_isGood_62, e_X10_isGood_66, br, rf_0, rf_1, rf_2, rf_3, rf_4, rf_5, rf_6, rf_7, rf_8, rf_9, rf_10, rf_11, rf_12, rf_13, rf_14, rf_15, rf_16, rf_17, rf_18, rf_19, rf_20, rf_21, rf_22, rf_23, rf_24, rf_25, rf_26, rf_27, rf_28, rf_29, rf_30, rf_31, rf_32, rf_33, rf_34, rp_0, rp_2, rp_5, rp_7, rp_8, rp_9, rp_10, rp_12, rp_16, rp_20, rp_21, rp_22, rp_25, rp_27, rp_30, rp_32, bI_r, bO_some, bF_I, bF_D, bF_C, bC_v, pk_mul, nI_add, Option.toList, List.cons_append, List.nil_append, upd_eq, upr_eq, Nat.reduceEqDiff, reduceIte, if_true, if_false]
    exact TR hc
  · have hc : ctB m 8 v = decide (v ≤ nI m) := rfl
    simp (decide := true) only [e_X10_isGood_12, e_X10_isGood_34, e_X10_isGood_39, e_X10_isGood_62, e_X10_isGood_66, e_X10_isGood_69, e_X10_isGood_73, e_X10_isGood_77, e_X10_isGood_81, br, rf_0, rf_1, rf_2, rf_3, rf_4, rf_5, rf_6, rf_7, rf_8, rf_9, rf_10, rf_11, rf_12, rf_13, rf_14, rf_15, rf_16, rf_17, rf_18, rf_19, rf_20, rf_21, rf_22, rf_23, rf_24, rf_25, rf_26, rf_27, rf_28, rf_29, rf_30, rf_31, rf_32, rf_33, rf_34, rp_0, rp_2, rp_5, rp_7, rp_8, rp_9, rp_10, rp_12, rp_16, rp_20, rp_21, rp_22, rp_25, rp_27, rp_30, rp_32, bI_r, bO_some, bF_I, bF_D, bF_C, bC_v, pk_mul, nI_add, Option.toList, List.cons_append, List.nil_append, upd_eq, upr_eq, Nat.reduceEqDiff, reduceIte, if_true, if_false, r3, h12]
    by_cases hle : v ≤ nI m
    · rw [if_neg (Int32.not_lt.mpr hle)]
      exact TR (decide_eq_true hle)
    · rw [if_pos (Int32.not_le.mp hle), hc, decide_eq_false hle, e_X10_isGood_88]
      exact T89 false 8 _
  · have hc : ctB m 9 v = decide (v ≤ nI m) := rfl
    simp (decide := true) only [e_X10_isGood_12, e_X10_isGood_34, e_X10_isGood_39, e_X10_isGood_62, e_X10_isGood_66, e_X10_isGood_69, e_X10_isGood_73, e_X10_isGood_77, e_X10_isGood_81, br, rf_0, rf_1, rf_2, rf_3, rf_4, rf_5, rf_6, rf_7, rf_8, rf_9, rf_10, rf_11, rf_12, rf_13, rf_14, rf_15, rf_16, rf_17, rf_18, rf_19, rf_20, rf_21, rf_22, rf_23, rf_24, rf_25, rf_26, rf_27, rf_28, rf_29, rf_30, rf_31, rf_32, rf_33, rf_34, rp_0, rp_2, rp_5, rp_7, rp_8, rp_9, rp_10, rp_12, rp_16, rp_20, rp_21, rp_22, rp_25, rp_27, rp_30, rp_32, bI_r, bO_some, bF_I, bF_D, bF_C, bC_v, pk_mul, nI_add, Option.toList, List.cons_append, List.nil_append, upd_eq, upr_eq, Nat.reduceEqDiff, reduceIte, if_true, if_false, r3, h12]
    by_cases hle : v ≤ nI m
    · rw [if_neg (Int32.not_lt.mpr hle)]
      exact TR (decide_eq_true hle)
    · rw [if_pos (Int32.not_le.mp hle), hc, decide_eq_false hle, e_X10_isGood_88]
      exact T89 false 9 _
  · have hc : ctB m 10 v = decide (v ≤ nI m) := rfl
    simp (decide := true) only [e_X10_isGood_12, e_X10_isGood_34, e_X10_isGood_39, e_X10_isGood_62, e_X10_isGood_66, e_X10_isGood_69, e_X10_isGood_73, e_X10_isGood_77, e_X10_isGood_81, br, rf_0, rf_1, rf_2, rf_3, rf_4, rf_5, rf_6, rf_7, rf_8, rf_9, rf_10, rf_11, rf_12, rf_13, rf_14, rf_15, rf_16, rf_17, rf_18, rf_19, rf_20, rf_21, rf_22, rf_23, rf_24, rf_25, rf_26, rf_27, rf_28, rf_29, rf_30, rf_31, rf_32, rf_33, rf_34, rp_0, rp_2, rp_5, rp_7, rp_8, rp_9, rp_10, rp_12, rp_16, rp_20, rp_21, rp_22, rp_25, rp_27, rp_30, rp_32, bI_r, bO_some, bF_I, bF_D, bF_C, bC_v, pk_mul, nI_add, Option.toList, List.cons_append, List.nil_append, upd_eq, upr_eq, Nat.reduceEqDiff, reduceIte, if_true, if_false, r3, h12]
    by_cases hle : v ≤ nI m
    · rw [if_neg (Int32.not_lt.mpr hle)]
      exact TR (decide_eq_true hle)
    · rw [if_pos (Int32.not_le.mp hle), hc, decide_eq_false hle, e_X10_isGood_88]
      exact T89 false 10 _
  · have hc := TD rfl
    simp (decide := true) only [e_X10_isGood_12, e_X10_isGood_34, e_X10_isGood_39, e_X10_isGood_62, e_X10_isGood_66, br, rf_0, rf_1, rf_2, rf_3, rf_4, rf_5, rf_6, rf_7, rf_8, rf_9, rf_10, rf_11, rf_12, rf_13, rf_14, rf_15, rf_16, rf_17, rf_18, rf_19, rf_20, rf_21, rf_22, rf_23, rf_24, rf_25, rf_26, rf_27, rf_28, rf_29, rf_30, rf_31, rf_32, rf_33, rf_34, rp_0, rp_2, rp_5, rp_7, rp_8, rp_9, rp_10, rp_12, rp_16, rp_20, rp_21, rp_22, rp_25, rp_27, rp_30, rp_32, bI_r, bO_some, bF_I, bF_D, bF_C, bC_v, pk_mul, nI_add, Option.toList, List.cons_append, List.nil_append, upd_eq, upr_eq, Nat.reduceEqDiff, reduceIte, if_true, if_false]
    exact TR hc
end
