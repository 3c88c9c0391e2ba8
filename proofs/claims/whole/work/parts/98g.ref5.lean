/-! PURE 54: the reference: candidates, fills, the form expanded -/
theorem pr_0 {X : Nat → Nat → Int32} {n : Nat} {x y : Int32} (hn : n ≤ 60) (h0 : prX X n x y = 0) : ∃ b way e, x = nI b ∧ b < n ∧ y = nI way ∧ way < 3 ∧ kBr (kx X b) = true ∧ kx X (b + 1) = 0 ∧ fdX X n b way = some e := by
  unfold prX at h0
  split at h0
  · cases h0
  · rename_i h1
    split at h0
    · cases h0
    · rename_i h2
      split at h0
      · cases h0
      · rename_i h3
        split at h0
        · cases h0
        · rename_i h4
          obtain ⟨b, hb, rfl⟩ := has_ex (by omega) (Classical.not_not.mp h1)
          have h5 := Classical.not_not.mp h2
          have h6 := inR (n := 2) (by omega) y
          rw [decide_eq_decide] at h6
          obtain ⟨way, hway, rfl⟩ := has_ex (by omega) (h6.mp h5)
          rw [nI_clamp (show b < 2 ^ 31 by omega)] at h3 h4
          rw [nI_clamp (show way < 2 ^ 31 by omega)] at h4
          have h7 := Classical.not_not.mp h3
          cases hf : fdX X n b way with
          | none => exact absurd hf h4
          | some e => exact ⟨b, way, e, rfl, hb, rfl, hway, h7.1, h7.2, hf⟩
theorem psR_59 (ρ : Nat → Nat → Int32) (l : Nat → Int32) (m : Nat) : psR (upr ρ 58 l) m = psR ρ m := rfl
section
variable {sc : SC} {h : AH} {φ : Nat → Int32} {ρ : Nat → Nat → Int32} {sn n i m w : Nat} {x y : Int32}
theorem r_candidate (h0 : ρ 53 0 = nI n) (hn : n ≤ 60) (hw : WF n (xM n (ρ 53))) (x y : Int32) : ∃ b l', Call sc n_X10_candidate [aD 51, aI x, aI y] (rh h φ ρ) = some (.inl (some (aI b)), rh h (upd φ 0 (nI (prX (xM n (ρ 53)) n x y))) (upr ρ 58 l')) ∧ (prX (xM n (ρ 53)) n x y = 0 → b = enc (fdX (xM n (ρ 53)) n x.toNatClampNeg y.toNatClampNeg)) := by
  obtain ⟨l1, q1⟩ := c_problem (sc := sc) (FO_r (h := h) (φ := φ) h0 hn) (LO_r (h := h) (φ := φ) (ρ := ρ)) (by omega) (by omega) hw x y
  rw [lset_r] at q1
  have hp5 : prX (xM n (ρ 53)) n x y ≤ 4 := by
    unfold prX
    repeat (split <;> try omega)
  by_cases hc : prX (xM n (ρ 53)) n x y = 0
  · obtain ⟨b, way, e, rfl, hb, rfl, hway, hk, hnop, hf⟩ := pr_0 hn hc
    obtain ⟨l2, q2⟩ := c_candidateOf (sc := sc) (FO_r (h := h) (φ := upd φ 0 (nI 0)) (ρ := upr ρ 58 l1) h0 hn) (LO_r (h := h) (φ := upd φ 0 (nI 0)) (ρ := upr ρ 58 l1)) (by omega) (by omega) hw.1 hw.2.1 hw.2.2.1 hb hk hway
    rw [lset_r, upr_upr] at q2
    rw [hc] at q1 ⊢
    refine ⟨enc (fdX (xM n (ρ 53)) n b way), l2, ?_, fun _ => by rw [nI_clamp (by omega), nI_clamp (by omega)]⟩
    simp only [c0_X10_candidate, e_X10_candidate_0, e_X10_candidate_7, e_X10_candidate_10, e_X10_candidate_14, e_X10_candidate_17, e_X10_candidate_23, e_X10_candidate_26, e_X10_candidate_27, rf_0, rf_1, rf_2, rf_3, rf_4, rf_5, rf_6, rf_7, rf_8, rf_9, rf_10, rf_11, rf_12, rf_13, rf_14, rf_15, rf_16, rf_17, rf_18, rf_19, rf_20, rf_21, rf_22, rf_23, rf_24, rf_25, rf_26, rf_27, rf_28, rf_29, rf_30, rf_31, rf_32, rf_33, rf_34, rp_0, rp_2, rp_5, rp_7, rp_8, rp_9, rp_10, rp_12, rp_16, rp_20, rp_21, rp_22, rp_25, rp_27, rp_30, rp_32, bI_r, bO_some, bF_I, bF_D, bF_C, bC_v, pk_mul, nI_add, Option.toList, List.cons_append, List.nil_append, upd_eq, upr_eq, Nat.reduceEqDiff, reduceIte, q1, zI_0, if_true, if_false, eq_self, not_true_eq_false, not_false_eq_true, show (nI 0 = 0) = True from eq_true (by decide), q2]
  · have hne : ¬ nI (prX (xM n (ρ 53)) n x y) = 0 := fun z => hc (nI_inj (b := 0) (by omega) (by omega) z)
    refine ⟨nI 0, l1, ?_, fun z => absurd z hc⟩
    simp only [c0_X10_candidate, e_X10_candidate_0, e_X10_candidate_7, e_X10_candidate_10, e_X10_candidate_14, e_X10_candidate_17, e_X10_candidate_23, e_X10_candidate_26, e_X10_candidate_27, rf_0, rf_1, rf_2, rf_3, rf_4, rf_5, rf_6, rf_7, rf_8, rf_9, rf_10, rf_11, rf_12, rf_13, rf_14, rf_15, rf_16, rf_17, rf_18, rf_19, rf_20, rf_21, rf_22, rf_23, rf_24, rf_25, rf_26, rf_27, rf_28, rf_29, rf_30, rf_31, rf_32, rf_33, rf_34, rp_0, rp_2, rp_5, rp_7, rp_8, rp_9, rp_10, rp_12, rp_16, rp_20, rp_21, rp_22, rp_25, rp_27, rp_30, rp_32, bI_r, bO_some, bF_I, bF_D, bF_C, bC_v, pk_mul, nI_add, Option.toList, List.cons_append, List.nil_append, upd_eq, upr_eq, Nat.reduceEqDiff, reduceIte, q1, zI_0, if_true, if_false, eq_self, not_true_eq_false, not_false_eq_true, hne]
theorem r_fill (h0 : ρ 53 0 = nI n) (hn : n ≤ 60) (hw : WF n (xM n (ρ 53))) (hm : m ≤ 8) (h5 : φ 5 = nI m) (x y : Int32) : (¬ prX (xM n (ρ 53)) n x y = 0 ∧ ∃ l', Call sc n_X10_fill [aD 51, aI x, aI y] (rh h φ ρ) = some (.inl (some (aI (nI 0))), rh h (upd φ 0 (nI (prX (xM n (ρ 53)) n x y))) (upr ρ 58 l'))) ∨ (prX (xM n (ρ 53)) n x y = 0 ∧ ∃ b way e l' g', x = nI b ∧ b < n ∧ y = nI way ∧ way < 3 ∧ kBr (kx (xM n (ρ 53)) b) = true ∧ kx (xM n (ρ 53)) (b + 1) = 0 ∧ fdX (xM n (ρ 53)) n b way = some e ∧ Call sc n_X10_fill [aD 51, aI x, aI y] (rh h φ ρ) = some (.inl (some (aI (if way = 0 then nI b - nI 1 else nI b))), rh h (upd (upd φ 0 (nI 0)) 5 (nI (psN m))) (upr (upr (upr ρ 54 (psR ρ m)) 58 l') 53 g')) ∧ g' 0 = nI (mvN n way) ∧ xM (mvN n way) g' = mvX (xM n (ρ 53)) n b way e) := by
  obtain ⟨l1, q1⟩ := c_problem (sc := sc) (FO_r (h := h) (φ := φ) h0 hn) (LO_r (h := h) (φ := φ) (ρ := ρ)) (by omega) (by omega) hw x y
  rw [lset_r] at q1
  have hp5 : prX (xM n (ρ 53)) n x y ≤ 4 := by
    unfold prX
    repeat (split <;> try omega)
  by_cases hc : prX (xM n (ρ 53)) n x y = 0
  · refine Or.inr ⟨hc, ?_⟩
    obtain ⟨b, way, e, rfl, hb, rfl, hway, hk, hnop, hf⟩ := pr_0 hn hc
    have q3 := r_remember (sc := sc) (h := h) (φ := upd φ 0 (nI 0)) (ρ := upr ρ 58 l1) hm (by exact h5)
    rw [psR_59] at q3
    obtain ⟨l2, q2⟩ := c_candidateOf (sc := sc) (FO_r (h := h) (φ := upd (upd φ 0 (nI 0)) 5 (nI (psN m))) (ρ := upr (upr ρ 58 l1) 54 (psR ρ m)) h0 hn) (LO_r (h := h) (φ := upd (upd φ 0 (nI 0)) 5 (nI (psN m))) (ρ := upr (upr ρ 58 l1) 54 (psR ρ m))) (by omega) (by omega) hw.1 hw.2.1 hw.2.2.1 hb hk hway
    have hr : upr (upr (upr ρ 58 l1) 54 (psR ρ m)) 58 l2 = upr (upr ρ 54 (psR ρ m)) 58 l2 := by
      funext p
      simp only [upr_eq]
      split
      · rfl
      · rfl
    rw [lset_r, hr] at q2
    have h5e := fd_ok hb hw hk hf
    obtain ⟨g', q4, q5, q6⟩ := c_doFill (sc := sc) (FO_r (h := h) (φ := upd (upd φ 0 (nI 0)) 5 (nI (psN m))) (ρ := upr (upr ρ 54 (psR ρ m)) 58 l2) h0 hn) (by omega) hw hb hk h5e.1 h5e.2.1 hway
    rw [gset_r] at q4
    have q2' : Call sc n_X10_candidateOf [aD 51, aI (nI b), aI (nI way)] (rh h (upd (upd φ 0 (nI 0)) 5 (nI (psN m))) (upr (upr ρ 58 l1) 54 (psR ρ m))) = some (.inl (some (aI (enc (fdX (xM n (ρ 53)) n b way)))), rh h (upd (upd φ 0 (nI 0)) 5 (nI (psN m))) (upr (upr ρ 54 (psR ρ m)) 58 l2)) := q2
    rw [hf] at q2'
    refine ⟨b, way, e, l2, g', rfl, hb, rfl, hway, hk, hnop, hf, ?_, q5, q6⟩
    rw [hc] at q1
    simp only [c0_X10_fill, e_X10_fill_0, e_X10_fill_7, e_X10_fill_10, e_X10_fill_14, e_X10_fill_17, e_X10_fill_19, e_X10_fill_23, e_X10_fill_32, e_X10_fill_35, rf_0, rf_1, rf_2, rf_3, rf_4, rf_5, rf_6, rf_7, rf_8, rf_9, rf_10, rf_11, rf_12, rf_13, rf_14, rf_15, rf_16, rf_17, rf_18, rf_19, rf_20, rf_21, rf_22, rf_23, rf_24, rf_25, rf_26, rf_27, rf_28, rf_29, rf_30, rf_31, rf_32, rf_33, rf_34, rp_0, rp_2, rp_5, rp_7, rp_8, rp_9, rp_10, rp_12, rp_16, rp_20, rp_21, rp_22, rp_25, rp_27, rp_30, rp_32, bI_r, bO_some, bF_I, bF_D, bF_C, bC_v, pk_mul, nI_add, Option.toList, List.cons_append, List.nil_append, upd_eq, upr_eq, Nat.reduceEqDiff, reduceIte, q1, zI_0, if_true, if_false, eq_self, not_true_eq_false, not_false_eq_true, show (nI 0 = 0) = True from eq_true (by decide), q3, q2', enc, q4]
  · have hne : ¬ nI (prX (xM n (ρ 53)) n x y) = 0 := fun z => hc (nI_inj (b := 0) (by omega) (by omega) z)
    refine Or.inl ⟨hc, l1, ?_⟩
    simp only [c0_X10_fill, e_X10_fill_0, e_X10_fill_7, e_X10_fill_10, e_X10_fill_14, e_X10_fill_17, e_X10_fill_19, e_X10_fill_23, e_X10_fill_32, e_X10_fill_35, rf_0, rf_1, rf_2, rf_3, rf_4, rf_5, rf_6, rf_7, rf_8, rf_9, rf_10, rf_11, rf_12, rf_13, rf_14, rf_15, rf_16, rf_17, rf_18, rf_19, rf_20, rf_21, rf_22, rf_23, rf_24, rf_25, rf_26, rf_27, rf_28, rf_29, rf_30, rf_31, rf_32, rf_33, rf_34, rp_0, rp_2, rp_5, rp_7, rp_8, rp_9, rp_10, rp_12, rp_16, rp_20, rp_21, rp_22, rp_25, rp_27, rp_30, rp_32, bI_r, bO_some, bF_I, bF_D, bF_C, bC_v, pk_mul, nI_add, Option.toList, List.cons_append, List.nil_append, upd_eq, upr_eq, Nat.reduceEqDiff, reduceIte, q1, zI_0, if_true, if_false, eq_self, not_true_eq_false, not_false_eq_true, hne]
def cdFa (x y : Int32) : Nat := if IR 3 x ∧ IR 3 y ∧ ¬ x = y then 0 else 1
theorem r_fillAll (h0 : ρ 53 0 = nI n) (hn : n ≤ 60) (hw : WF n (xM n (ρ 53))) (hm : m ≤ 8) (h5 : φ 5 = nI m) (x y : Int32) : (cdFa x y = 1 ∧ Call sc n_X10_fillAll [aD 51, aI x, aI y] (rh h φ ρ) = some (.inl (some (aI (nI 0))), rh h (upd φ 0 (nI 1)) ρ)) ∨ (cdFa x y = 0 ∧ ∃ w1 w2 l' g', x = nI w1 ∧ w1 < 3 ∧ y = nI w2 ∧ w2 < 3 ∧ ¬ w1 = w2 ∧ Call sc n_X10_fillAll [aD 51, aI x, aI y] (rh h φ ρ) = some (.inl (some (aI (nI (faX w1 w2 (3 - w1 - w2) 60 (n, xM n (ρ 53), 0, 0)).2.2.2))), rh h (upd (upd φ 0 (nI 0)) 5 (nI (psN m))) (upr (upr (upr ρ 54 (psR ρ m)) 53 g') 58 l')) ∧ g' 0 = nI (faX w1 w2 (3 - w1 - w2) 60 (n, xM n (ρ 53), 0, 0)).1 ∧ xM (faX w1 w2 (3 - w1 - w2) 60 (n, xM n (ρ 53), 0, 0)).1 g' = (faX w1 w2 (3 - w1 - w2) 60 (n, xM n (ρ 53), 0, 0)).2.1 ∧ (faX w1 w2 (3 - w1 - w2) 60 (n, xM n (ρ 53), 0, 0)).1 ≤ 60) := by
  have i2 := fun y => inR (n := 2) (by omega) y
  unfold cdFa
  by_cases h1 : IR 3 x
  · by_cases h2 : IR 3 y
    · by_cases h3 : x = y
      · refine Or.inl ⟨if_neg (fun z => z.2.2 h3), ?_⟩
        simp only [c0_X10_fillAll, e_X10_fillAll_0, e_X10_fillAll_5, e_X10_fillAll_11, e_X10_fillAll_14, e_X10_fillAll_20, e_X10_fillAll_23, e_X10_fillAll_28, e_X10_fillAll_33, rf_0, rf_1, rf_2, rf_3, rf_4, rf_5, rf_6, rf_7, rf_8, rf_9, rf_10, rf_11, rf_12, rf_13, rf_14, rf_15, rf_16, rf_17, rf_18, rf_19, rf_20, rf_21, rf_22, rf_23, rf_24, rf_25, rf_26, rf_27, rf_28, rf_29, rf_30, rf_31, rf_32, rf_33, rf_34, rp_0, rp_2, rp_5, rp_7, rp_8, rp_9, rp_10, rp_12, rp_16, rp_20, rp_21, rp_22, rp_25, rp_27, rp_30, rp_32, bI_r, bO_some, bF_I, bF_D, bF_C, bC_v, pk_mul, nI_add, Option.toList, List.cons_append, List.nil_append, upd_eq, upr_eq, Nat.reduceEqDiff, reduceIte, c_isIn, i2, decide_eq_true h1, decide_eq_true h2, h3, zI_0, if_true, if_false, eq_self, not_true_eq_false, not_false_eq_true, reduceCtorEq, fail_r, upd_upd]
      · refine Or.inr ⟨if_pos ⟨h1, h2, h3⟩, ?_⟩
        obtain ⟨w1, hw1, rfl⟩ := has_ex (by omega) h1
        obtain ⟨w2, hw2, rfl⟩ := has_ex (by omega) h2
        have hne : ¬ w1 = w2 := fun z => h3 (by rw [z])
        have q3 := r_remember (sc := sc) (h := h) (φ := upd φ 0 (nI 0)) (ρ := ρ) hm (by exact h5)
        obtain ⟨h', s1, ⟨g', l', s2, s3, s4⟩, s5⟩ := l_mfillAll (sc := sc) hw1 hw2 hne (show ¬ 51 = 53 by omega) (show ¬ 51 = 58 by omega) (show ¬ 53 = 58 by omega) 60 (rh h (upd (upd φ 0 (nI 0)) 5 (nI (psN m))) (upr ρ 54 (psR ρ m))) (n, xM n (ρ 53), 0, 0) aU aU aU aU ⟨ρ 53, ρ 58, FO_r (ρ := upr ρ 54 (psR ρ m)) h0 hn, LO_r (ρ := upr ρ 54 (psR ρ m)), rfl⟩ hw hn (by show 0 < 2 ^ 30; omega) (by show n ≤ 0 + 60; omega)
        have hb := rh_back s5 s2.2.2.1 s3.2.2
        subst hb
        refine ⟨w1, w2, l', g', rfl, hw1, rfl, hw2, hne, ?_, s2.2.2.2.1, s4, s2.2.2.2.2⟩
        simp only [c0_X10_fillAll, e_X10_fillAll_0, e_X10_fillAll_5, e_X10_fillAll_11, e_X10_fillAll_14, e_X10_fillAll_20, e_X10_fillAll_23, e_X10_fillAll_34, e_X10_fillAll_38, rf_0, rf_1, rf_2, rf_3, rf_4, rf_5, rf_6, rf_7, rf_8, rf_9, rf_10, rf_11, rf_12, rf_13, rf_14, rf_15, rf_16, rf_17, rf_18, rf_19, rf_20, rf_21, rf_22, rf_23, rf_24, rf_25, rf_26, rf_27, rf_28, rf_29, rf_30, rf_31, rf_32, rf_33, rf_34, rp_0, rp_2, rp_5, rp_7, rp_8, rp_9, rp_10, rp_12, rp_16, rp_20, rp_21, rp_22, rp_25, rp_27, rp_30, rp_32, bI_r, bO_some, bF_I, bF_D, bF_C, bC_v, pk_mul, nI_add, Option.toList, List.cons_append, List.nil_append, upd_eq, upr_eq, Nat.reduceEqDiff, reduceIte, c_isIn, i2, decide_eq_true h1, decide_eq_true h2, h3, zI_0, if_true, if_false, eq_self, not_true_eq_false, not_false_eq_true, reduceCtorEq, q3]
        exact s1
    · refine Or.inl ⟨if_neg (fun z => h2 z.2.1), ?_⟩
      simp only [c0_X10_fillAll, e_X10_fillAll_0, e_X10_fillAll_5, e_X10_fillAll_11, e_X10_fillAll_14, e_X10_fillAll_20, e_X10_fillAll_28, e_X10_fillAll_33, rf_0, rf_1, rf_2, rf_3, rf_4, rf_5, rf_6, rf_7, rf_8, rf_9, rf_10, rf_11, rf_12, rf_13, rf_14, rf_15, rf_16, rf_17, rf_18, rf_19, rf_20, rf_21, rf_22, rf_23, rf_24, rf_25, rf_26, rf_27, rf_28, rf_29, rf_30, rf_31, rf_32, rf_33, rf_34, rp_0, rp_2, rp_5, rp_7, rp_8, rp_9, rp_10, rp_12, rp_16, rp_20, rp_21, rp_22, rp_25, rp_27, rp_30, rp_32, bI_r, bO_some, bF_I, bF_D, bF_C, bC_v, pk_mul, nI_add, Option.toList, List.cons_append, List.nil_append, upd_eq, upr_eq, Nat.reduceEqDiff, reduceIte, c_isIn, i2, decide_eq_true h1, decide_eq_false h2, zI_0, if_true, if_false, eq_self, not_true_eq_false, not_false_eq_true, reduceCtorEq, fail_r, upd_upd]
  · refine Or.inl ⟨if_neg (fun z => h1 z.1), ?_⟩
    simp only [c0_X10_fillAll, e_X10_fillAll_0, e_X10_fillAll_5, e_X10_fillAll_11, e_X10_fillAll_28, e_X10_fillAll_33, rf_0, rf_1, rf_2, rf_3, rf_4, rf_5, rf_6, rf_7, rf_8, rf_9, rf_10, rf_11, rf_12, rf_13, rf_14, rf_15, rf_16, rf_17, rf_18, rf_19, rf_20, rf_21, rf_22, rf_23, rf_24, rf_25, rf_26, rf_27, rf_28, rf_29, rf_30, rf_31, rf_32, rf_33, rf_34, rp_0, rp_2, rp_5, rp_7, rp_8, rp_9, rp_10, rp_12, rp_16, rp_20, rp_21, rp_22, rp_25, rp_27, rp_30, rp_32, bI_r, bO_some, bF_I, bF_D, bF_C, bC_v, pk_mul, nI_add, Option.toList, List.cons_append, List.nil_append, upd_eq, upr_eq, Nat.reduceEqDiff, reduceIte, c_isIn, i2, decide_eq_false h1, zI_0, if_true, if_false, eq_self, not_true_eq_false, not_false_eq_true, reduceCtorEq, fail_r, upd_upd]
theorem r_entryOf (hn : sn ≤ 30) (hv : VK sn (xS sn (ρ 52))) {m : Nat} (hm : m ≤ sn) : Call sc n_X10_entryOf [aD 51, aI (nI m)] (rh h φ ρ) = some (.inl (some (aI (nI (eoX (xS sn (ρ 52)) m)))), rh h φ ρ) := by
  have hl : ∀ d i, i + d = m → Run sc n_X10_entryOf 4 [aD 51, aI (nI m), aI (nI (m + cnt i (fun k => kBr (kx (xS sn (ρ 52)) k)))), aI (nI i)] none [] (rh h φ ρ) = some (.inl (some (aI (nI (eoX (xS sn (ρ 52)) m)))), rh h φ ρ) := by
    intro d
    induction d with
    | zero =>
      intro i hi
      have hin : i = m := by omega
      subst hin
      rw [e_X10_entryOf_4, if_pos (nI_le (Nat.le_refl i) (by omega)), e_X10_entryOf_37]
      rfl
    | succ d ih =>
      intro i hi
      have hin : i < sn := by omega
      have h1 : ¬ nI m ≤ nI i := nI_ge (by omega) (by omega)
      have h2 := ih (i + 1) (by omega)
      have h3 : ρ 52 (4 * i) = nI (kx (xS sn (ρ 52)) i) := (xS_at hin (show 0 < 4 by omega)).trans (hv i hin).1
      rw [e_X10_entryOf_4, if_neg h1]
      simp only [e_X10_entryOf_9, e_X10_entryOf_14, e_X10_entryOf_18, e_X10_entryOf_21, rf_0, rf_1, rf_2, rf_3, rf_4, rf_5, rf_6, rf_7, rf_8, rf_9, rf_10, rf_11, rf_12, rf_13, rf_14, rf_15, rf_16, rf_17, rf_18, rf_19, rf_20, rf_21, rf_22, rf_23, rf_24, rf_25, rf_26, rf_27, rf_28, rf_29, rf_30, rf_31, rf_32, rf_33, rf_34, rp_0, rp_2, rp_5, rp_7, rp_8, rp_9, rp_10, rp_12, rp_16, rp_20, rp_21, rp_22, rp_25, rp_27, rp_30, rp_32, bI_r, bO_some, bF_I, bF_D, bF_C, bC_v, pk_mul, nI_add, Option.toList, List.cons_append, List.nil_append, upd_eq, upr_eq, Nat.reduceEqDiff, reduceIte, rl_53 (show 4 * i < 120 by omega), h3, c_isBranch (hv i hin).2]
      cases hb : kBr (kx (xS sn (ρ 52)) i)
      · simp only [cnt, hb, reduceCtorEq, if_false, Nat.add_zero] at h2
        simp only [zI_0, if_true, if_false, eq_self, not_true_eq_false, not_false_eq_true, e_X10_entryOf_28, e_X10_entryOf_29, bO_some, bF_I, bF_D, bF_C, bC_v, pk_mul, nI_add, Option.toList, List.cons_append, List.nil_append, Nat.add_zero]
        exact h2
      · simp only [cnt, hb, if_true] at h2
        simp only [zI_0, if_true, if_false, eq_self, not_true_eq_false, not_false_eq_true, reduceCtorEq, e_X10_entryOf_24, e_X10_entryOf_29, bO_some, bF_I, bF_D, bF_C, bC_v, pk_mul, nI_add, Option.toList, List.cons_append, List.nil_append]
        exact h2
  rw [c0_X10_entryOf, e_X10_entryOf_0]
  exact hl m 0 (by omega)
theorem xM_u0 {g : Nat → Int32} {n : Nat} {x : Int32} : xM n (upd g 0 x) = xM n g := by
  funext i w
  unfold xM nm
  by_cases hh : i < n ∧ w < 5
  · rw [if_pos hh, if_pos hh]
    show upd g 0 x (1 + 5 * i + w) = g (1 + 5 * i + w)
    rw [upd_eq, if_neg (by omega)]
  · rw [if_neg hh, if_neg hh]
theorem l_expand (hn : sn ≤ 30) (h2 : φ 2 = nI sn) (hv : VK sn (xS sn (ρ 52))) (ht : VT sn (xS sn (ρ 52))) : ∀ d j, j + d = sn → ∀ g v2 v3, g 0 = nI (eoX (xS sn (ρ 52)) j) → xM (eoX (xS sn (ρ 52)) j) g = expX (xS sn (ρ 52)) j → ∃ g', Run sc n_X10_expand 18 [aD 51, aI (nI j), v2, v3] none [] (rh h φ (upr ρ 53 g)) = some (.inl (some (aI (nI (eoX (xS sn (ρ 52)) sn)))), rh h φ (upr ρ 53 g')) ∧ g' 0 = nI (eoX (xS sn (ρ 52)) sn) ∧ xM (eoX (xS sn (ρ 52)) sn) g' = expX (xS sn (ρ 52)) sn := by
  intro d
  induction d with
  | zero =>
    intro j hj g v2 v3 h0 hx
    have : j = sn := by omega
    subst this
    refine ⟨g, ?_, h0, hx⟩
    simp only [e_X10_expand_18, e_X10_expand_23, e_X10_expand_145, e_X10_expand_149, e_X10_expand_151, rf_0, rf_1, rf_2, rf_3, rf_4, rf_5, rf_6, rf_7, rf_8, rf_9, rf_10, rf_11, rf_12, rf_13, rf_14, rf_15, rf_16, rf_17, rf_18, rf_19, rf_20, rf_21, rf_22, rf_23, rf_24, rf_25, rf_26, rf_27, rf_28, rf_29, rf_30, rf_31, rf_32, rf_33, rf_34, rp_0, rp_2, rp_5, rp_7, rp_8, rp_9, rp_10, rp_12, rp_16, rp_20, rp_21, rp_22, rp_25, rp_27, rp_30, rp_32, bI_r, bO_some, bF_I, bF_D, bF_C, bC_v, pk_mul, nI_add, Option.toList, List.cons_append, List.nil_append, upd_eq, upr_eq, Nat.reduceEqDiff, reduceIte, h2, nI_le (Nat.le_refl j) (show j < 2 ^ 31 by omega), if_true, rl_54 (show 0 < 301 by omega), h0]
  | succ d ih =>
    intro j hj g v2 v3 h0 hx
    have hjn : j < sn := by omega
    have he := eoX_le (xS sn (ρ 52)) j
    have hs := eoX_succ (xS sn (ρ 52)) j
    have Z := ih (j + 1) (by omega)
    rw [hs] at Z
    simp only [expX] at Z
    have p0 : ρ 52 (4 * j) = nI (kx (xS sn (ρ 52)) j) := (xS_at hjn (show 0 < 4 by omega)).trans (hv j hjn).1
    have p1 := xS_at (s := ρ 52) hjn (show 1 < 4 by omega)
    have p2 := xS_at (s := ρ 52) hjn (show 2 < 4 by omega)
    have p3 := xS_at (s := ρ 52) hjn (show 3 < 4 by omega)
    have k0 := (hv j hjn).1
    have h1 : ¬ nI sn ≤ nI j := nI_ge (by omega) (by omega)
    have r53 := fun w (hw : w < 120) ρ' => rl_53 (sc := sc) (h := h) (φ := φ) (ρ := ρ') hw
    have r54 := fun ρ' => rl_54 (sc := sc) (h := h) (φ := φ) (ρ := ρ') (show 0 < 301 by omega)
    have s54 := fun ρ' x => rs_54 (h := h) (φ := φ) (ρ := ρ') (x := x) (show 0 < 301 by omega)
    have EO : ∀ t, t ≤ sn → Call sc n_X10_entryOf [aD 51, aI (nI t)] (rh h φ (upr ρ 53 g)) = some (.inl (some (aI (nI (eoX (xS sn (ρ 52)) t)))), rh h φ (upr ρ 53 g)) := fun t htt => r_entryOf (sc := sc) (h := h) (φ := φ) (ρ := upr ρ 53 g) hn hv htt
    generalize hY : xS sn (ρ 52) = Y at *
    generalize hee : eoX Y j = e at *
    have P := fun (g : Nat → Int32) (i : Nat) (hi : i < 60) (m : Nat) (hm : m ≤ 60) (h0 : g 0 = nI m) (k a b c z : Int32) => (c_X10_put (sc := sc) (k := k) (a := a) (b := b) (c := c) (z := z) (FO_r (h := h) (φ := φ) (ρ := upr ρ 53 g) h0 hm) (by omega) hi)
    simp only [gset_r, upr_upr] at P
    have P' : ∀ (g : Nat → Int32) (i : Nat) (_ : i < 60) (m : Nat) (_ : m ≤ 60) (_ : g 0 = nI m) (k a b c z : Int32), Call sc n_X10_put [aD 51, aI (nI i), aI k, aI a, aI b, aI c, aI z] (rh h φ (upr ρ 53 g)) = some (.inl none, rh h φ (upr ρ 53 (pu5 g i k a b c z))) := P
    rw [e_X10_expand_18]
    simp only [e_X10_expand_23, e_X10_expand_26, e_X10_expand_34, e_X10_expand_36, e_X10_expand_39, e_X10_expand_45, e_X10_expand_47, e_X10_expand_51, e_X10_expand_53, e_X10_expand_57, e_X10_expand_61, e_X10_expand_65, e_X10_expand_69, rf_0, rf_1, rf_2, rf_3, rf_4, rf_5, rf_6, rf_7, rf_8, rf_9, rf_10, rf_11, rf_12, rf_13, rf_14, rf_15, rf_16, rf_17, rf_18, rf_19, rf_20, rf_21, rf_22, rf_23, rf_24, rf_25, rf_26, rf_27, rf_28, rf_29, rf_30, rf_31, rf_32, rf_33, rf_34, rp_0, rp_2, rp_5, rp_7, rp_8, rp_9, rp_10, rp_12, rp_16, rp_20, rp_21, rp_22, rp_25, rp_27, rp_30, rp_32, bI_r, bO_some, bF_I, bF_D, bF_C, bC_v, pk_mul, nI_add, Option.toList, List.cons_append, List.nil_append, upd_eq, upr_eq, Nat.reduceEqDiff, reduceIte, h2, h1, if_false, r53 (4 * j) (by omega), r53 (4 * j + 1) (by omega), r53 (4 * j + 2) (by omega), r54, p0, p1, p2, h0, c_isBranch (hv j hjn).2, zI_0]
    cases hb : kBr (kx Y j)
    · simp only [hb, reduceCtorEq, if_false] at Z
      simp only [zI_0, if_true, if_false, eq_self, not_true_eq_false, not_false_eq_true, e_X10_expand_88, e_X10_expand_92, e_X10_expand_96, e_X10_expand_100, e_X10_expand_104, e_X10_expand_107, e_X10_expand_110, e_X10_expand_139, rf_0, rf_1, rf_2, rf_3, rf_4, rf_5, rf_6, rf_7, rf_8, rf_9, rf_10, rf_11, rf_12, rf_13, rf_14, rf_15, rf_16, rf_17, rf_18, rf_19, rf_20, rf_21, rf_22, rf_23, rf_24, rf_25, rf_26, rf_27, rf_28, rf_29, rf_30, rf_31, rf_32, rf_33, rf_34, rp_0, rp_2, rp_5, rp_7, rp_8, rp_9, rp_10, rp_12, rp_16, rp_20, rp_21, rp_22, rp_25, rp_27, rp_30, rp_32, bI_r, bO_some, bF_I, bF_D, bF_C, bC_v, pk_mul, nI_add, Option.toList, List.cons_append, List.nil_append, upd_eq, upr_eq, Nat.reduceEqDiff, reduceIte, r53 (4 * j + 3) (by omega), p3, P' g e (by omega) e (by omega) h0, r54, s54, pu5_0, h0, upr_upr]
      refine Z _ _ _ rfl ?_
      rw [xM_u0, xM_app, hx, k0]
      rfl
    · obtain ⟨t, ht1, ht2⟩ := ht j hjn hb
      simp only [hb, if_true, ht1, nI_clamp (show t < 2 ^ 31 by omega)] at Z
      have hE := EO t ht2
      simp only [reduceCtorEq, zI_0, if_true, if_false, eq_self, not_true_eq_false, not_false_eq_true, e_X10_expand_73, e_X10_expand_78, e_X10_expand_82, e_X10_expand_85, e_X10_expand_96, e_X10_expand_100, e_X10_expand_104, e_X10_expand_107, e_X10_expand_110, e_X10_expand_114, e_X10_expand_119, e_X10_expand_121, e_X10_expand_129, e_X10_expand_133, e_X10_expand_136, e_X10_expand_139, rf_0, rf_1, rf_2, rf_3, rf_4, rf_5, rf_6, rf_7, rf_8, rf_9, rf_10, rf_11, rf_12, rf_13, rf_14, rf_15, rf_16, rf_17, rf_18, rf_19, rf_20, rf_21, rf_22, rf_23, rf_24, rf_25, rf_26, rf_27, rf_28, rf_29, rf_30, rf_31, rf_32, rf_33, rf_34, rp_0, rp_2, rp_5, rp_7, rp_8, rp_9, rp_10, rp_12, rp_16, rp_20, rp_21, rp_22, rp_25, rp_27, rp_30, rp_32, bI_r, bO_some, bF_I, bF_D, bF_C, bC_v, pk_mul, nI_add, Option.toList, List.cons_append, List.nil_append, upd_eq, upr_eq, Nat.reduceEqDiff, reduceIte, r53 (4 * j + 3) (by omega), p3, ht1, hE, P' g e (by omega) e (by omega) h0, P' (upd (pu5 g e (nI (kx Y j)) (Y j 1) (Y j 2) (nI (eoX Y t)) (nI 0)) 0 (nI (e + 1))) (e + 1) (by omega) (e + 1) (by omega) rfl, r54, s54, pu5_0, h0, upr_upr]
      refine Z _ _ _ ?_ ?_
      · rfl
      rw [show e + 2 = e + 1 + 1 from rfl, xM_u0, xM_app, xM_u0, xM_app, hx, k0]
      rfl
theorem r_expand (hn : sn ≤ 30) (h2 : φ 2 = nI sn) (hv : VK sn (xS sn (ρ 52))) (ht : VT sn (xS sn (ρ 52))) (hm : m ≤ 8) (h5 : φ 5 = nI m) : ∃ g', Call sc n_X10_expand [aD 51] (rh h φ ρ) = some (.inl (some (aI (nI (eoX (xS sn (ρ 52)) sn)))), rh h (upd (upd φ 0 (nI 0)) 5 (nI (psN m))) (upr (upr ρ 54 (psR ρ m)) 53 g')) ∧ g' 0 = nI (eoX (xS sn (ρ 52)) sn) ∧ xM (eoX (xS sn (ρ 52)) sn) g' = expX (xS sn (ρ 52)) sn := by
  have q3 := r_remember (sc := sc) (h := h) (φ := upd φ 0 (nI 0)) (ρ := ρ) hm (by exact h5)
  obtain ⟨g', q1, q2, q4⟩ := l_expand (sc := sc) (h := h) (φ := upd (upd φ 0 (nI 0)) 5 (nI (psN m))) (ρ := upr ρ 54 (psR ρ m)) hn h2 hv ht sn 0 (by omega) (upd (ρ 53) 0 (nI 0)) aU aU rfl (by
    funext i w
    unfold xM nm
    rw [if_neg (by show ¬ (i < 0 ∧ w < 5); omega)]
    rfl)
  refine ⟨g', ?_, q2, q4⟩
  simp only [c0_X10_expand, e_X10_expand_0, e_X10_expand_5, e_X10_expand_9, e_X10_expand_13, e_X10_expand_16, rf_0, rf_1, rf_2, rf_3, rf_4, rf_5, rf_6, rf_7, rf_8, rf_9, rf_10, rf_11, rf_12, rf_13, rf_14, rf_15, rf_16, rf_17, rf_18, rf_19, rf_20, rf_21, rf_22, rf_23, rf_24, rf_25, rf_26, rf_27, rf_28, rf_29, rf_30, rf_31, rf_32, rf_33, rf_34, rp_0, rp_2, rp_5, rp_7, rp_8, rp_9, rp_10, rp_12, rp_16, rp_20, rp_21, rp_22, rp_25, rp_27, rp_30, rp_32, bI_r, bO_some, bF_I, bF_D, bF_C, bC_v, pk_mul, nI_add, Option.toList, List.cons_append, List.nil_append, upd_eq, upr_eq, Nat.reduceEqDiff, reduceIte, q3, rs_54 (show 0 < 301 by omega)]
  exact q1
end
