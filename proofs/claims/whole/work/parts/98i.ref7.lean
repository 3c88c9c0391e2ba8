/-! PURE 56: the reference: operands read -/
def rd (φ : Nat → Int32) (pos : Nat) (ft : Option Nat) (m : Nat) : Nat → Int32 := upd (upd (upd φ 9 (nI pos)) 10 (enc ft)) 12 (nI m)
theorem enc_n : enc none = -1 := rfl
theorem enc_s (f : Nat) : enc (some f) = nI f := rfl
section
variable {φ : Nat → Int32} {pos m x : Nat} {ft f' : Option Nat}
theorem rd_8 : rd φ pos ft m 8 = φ 8 := rfl
theorem rd_9 : rd φ pos ft m 9 = nI pos := rfl
theorem rd_10 : rd φ pos ft m 10 = enc ft := rfl
theorem rd_12 : rd φ pos ft m 12 = nI m := rfl
theorem rd_u9 : upd (rd φ pos ft m) 9 (nI x) = rd φ x ft m := by
  funext j
  unfold rd
  simp only [upd_eq]
  by_cases h9 : j = 9
  · subst h9
    rfl
  · simp only [h9, if_false]
theorem rd_u10 : upd (rd φ pos ft m) 10 (enc f') = rd φ pos f' m := by
  funext j
  unfold rd
  simp only [upd_eq]
  by_cases h9 : j = 10
  · subst h9
    rfl
  · simp only [h9, if_false]
theorem rd_u10s : upd (rd φ pos ft m) 10 (nI x) = rd φ pos (some x) m := rd_u10 (f' := some x)
theorem rd_u12 : upd (rd φ pos ft m) 12 (nI x) = rd φ pos ft x := by
  funext j
  unfold rd
  simp only [upd_eq]
  by_cases h9 : j = 12
  · subst h9
    rfl
  · simp only [h9, if_false]
end
def sgX (c : Nat → Int32) (len pos : Nat) : Int32 := if pos < len then c pos else -1
theorem sg_dg (c : Nat → Int32) (len pos : Nat) : decide (¬ sgX c len pos < nI 48 ∧ ¬ nI 57 < sgX c len pos) = dgX c len pos := by
  unfold sgX dgX
  by_cases hp : pos < len
  · rw [if_pos hp, decide_eq_true hp, Bool.true_and]
    exact Bool.decide_and ..
  · rw [if_neg hp, decide_eq_false hp, Bool.false_and]
    decide
theorem sg_ps {c : Nat → Int32} {len pos : Nat} {x : Int32} (hx : ¬ x = -1) : (sgX c len pos = x) = (psX c len pos x = true) := by
  unfold sgX psX
  by_cases hp : pos < len
  · rw [if_pos hp, decide_eq_true hp, Bool.true_and, decide_eq_true_eq]
  · rw [if_neg hp, decide_eq_false hp, Bool.false_and]
    exact propext ⟨fun z => absurd z.symm hx, fun z => by cases z⟩
section
variable {sc : SC} {h : AH} {φ : Nat → Int32} {ρ : Nat → Nat → Int32} {len j p pos m k : Nat} {ft : Option Nat} {v x1 x : Int32} {neg mi : Bool} {v2 v3 v4 : AV}
theorem r_sign (h8 : φ 8 = nI len) (hl : len ≤ 120) (hp : pos ≤ len) : Call sc n_X10_sign [aD 51] (rh h (rd φ pos ft m) ρ) = some (.inl (some (aI (sgX (ρ 55) len pos))), rh h (rd φ pos ft m) ρ) := by
  unfold sgX
  by_cases h1 : pos < len
  · have h2 : ¬ nI len ≤ nI pos := nI_ge h1 (by omega)
    simp only [c0_X10_sign, e_X10_sign_0, e_X10_sign_4, e_X10_sign_8, e_X10_sign_11, e_X10_sign_15, e_X10_sign_19, e_X10_sign_20, e_X10_sign_23, e_X10_sign_24, rf_0, rf_1, rf_2, rf_3, rf_4, rf_5, rf_6, rf_7, rf_8, rf_9, rf_10, rf_11, rf_12, rf_13, rf_14, rf_15, rf_16, rf_17, rf_18, rf_19, rf_20, rf_21, rf_22, rf_23, rf_24, rf_25, rf_26, rf_27, rf_28, rf_29, rf_30, rf_31, rf_32, rf_33, rf_34, rp_0, rp_2, rp_5, rp_7, rp_8, rp_9, rp_10, rp_12, rp_16, rp_20, rp_21, rp_22, rp_25, rp_27, rp_30, rp_32, bI_r, bO_some, bF_I, bF_D, bF_C, bC_v, pk_mul, nI_add, Option.toList, List.cons_append, List.nil_append, upd_eq, upr_eq, Nat.reduceEqDiff, reduceIte, rd_8, rd_9, rd_10, rd_12, rd_u9, rd_u10s, rd_u12, enc_n, enc_s, h8, h2, h1, if_false, if_true, rl_56 (show pos < 120 by omega)]
  · have h2 : nI len ≤ nI pos := nI_le (by omega) (by omega)
    simp only [c0_X10_sign, e_X10_sign_0, e_X10_sign_4, e_X10_sign_8, e_X10_sign_11, e_X10_sign_15, e_X10_sign_19, e_X10_sign_20, e_X10_sign_23, e_X10_sign_24, rf_0, rf_1, rf_2, rf_3, rf_4, rf_5, rf_6, rf_7, rf_8, rf_9, rf_10, rf_11, rf_12, rf_13, rf_14, rf_15, rf_16, rf_17, rf_18, rf_19, rf_20, rf_21, rf_22, rf_23, rf_24, rf_25, rf_26, rf_27, rf_28, rf_29, rf_30, rf_31, rf_32, rf_33, rf_34, rp_0, rp_2, rp_5, rp_7, rp_8, rp_9, rp_10, rp_12, rp_16, rp_20, rp_21, rp_22, rp_25, rp_27, rp_30, rp_32, bI_r, bO_some, bF_I, bF_D, bF_C, bC_v, pk_mul, nI_add, Option.toList, List.cons_append, List.nil_append, upd_eq, upr_eq, Nat.reduceEqDiff, reduceIte, rd_8, rd_9, rd_10, rd_12, rd_u9, rd_u10s, rd_u12, enc_n, enc_s, h8, h2, h1, if_false, if_true]
theorem r_isDigit (h8 : φ 8 = nI len) (hl : len ≤ 120) (hp : pos ≤ len) : Call sc n_X10_isDigit [aD 51] (rh h (rd φ pos ft m) ρ) = some (.inl (some (aI (zI (dgX (ρ 55) len pos)))), rh h (rd φ pos ft m) ρ) := by
  simp only [c0_X10_isDigit, e_X10_isDigit_0, e_X10_isDigit_4, e_X10_isDigit_11, rf_0, rf_1, rf_2, rf_3, rf_4, rf_5, rf_6, rf_7, rf_8, rf_9, rf_10, rf_11, rf_12, rf_13, rf_14, rf_15, rf_16, rf_17, rf_18, rf_19, rf_20, rf_21, rf_22, rf_23, rf_24, rf_25, rf_26, rf_27, rf_28, rf_29, rf_30, rf_31, rf_32, rf_33, rf_34, rp_0, rp_2, rp_5, rp_7, rp_8, rp_9, rp_10, rp_12, rp_16, rp_20, rp_21, rp_22, rp_25, rp_27, rp_30, rp_32, bI_r, bO_some, bF_I, bF_D, bF_C, bC_v, pk_mul, nI_add, Option.toList, List.cons_append, List.nil_append, upd_eq, upr_eq, Nat.reduceEqDiff, reduceIte, r_sign h8 hl hp, c_isIn, sg_dg]
  exact bI_t (zI_ret _) _
theorem r_fault (hf : ∀ f, ft = some f → f < 2 ^ 31) : Call sc n_X10_fault [aD 51] (rh h (rd φ pos ft m) ρ) = some (.inl none, rh h (rd φ pos (some (ft.getD pos)) m) ρ) := by
  cases ft with
  | none => simp only [c0_X10_fault, e_X10_fault_0, e_X10_fault_5, e_X10_fault_9, e_X10_fault_13, e_X10_fault_16, e_X10_fault_20, e_X10_fault_23, rf_0, rf_1, rf_2, rf_3, rf_4, rf_5, rf_6, rf_7, rf_8, rf_9, rf_10, rf_11, rf_12, rf_13, rf_14, rf_15, rf_16, rf_17, rf_18, rf_19, rf_20, rf_21, rf_22, rf_23, rf_24, rf_25, rf_26, rf_27, rf_28, rf_29, rf_30, rf_31, rf_32, rf_33, rf_34, rp_0, rp_2, rp_5, rp_7, rp_8, rp_9, rp_10, rp_12, rp_16, rp_20, rp_21, rp_22, rp_25, rp_27, rp_30, rp_32, bI_r, bO_some, bF_I, bF_D, bF_C, bC_v, pk_mul, nI_add, Option.toList, List.cons_append, List.nil_append, upd_eq, upr_eq, Nat.reduceEqDiff, reduceIte, rd_8, rd_9, rd_10, rd_12, rd_u9, rd_u10s, rd_u12, enc_n, enc_s, zI_0, if_true, if_false, eq_self, not_true_eq_false, not_false_eq_true, Option.getD_none]
  | some f =>
    have h1 : ¬ nI f = -1 := enc_ne (hf f rfl)
    simp only [c0_X10_fault, e_X10_fault_0, e_X10_fault_5, e_X10_fault_9, e_X10_fault_13, e_X10_fault_16, e_X10_fault_20, e_X10_fault_23, rf_0, rf_1, rf_2, rf_3, rf_4, rf_5, rf_6, rf_7, rf_8, rf_9, rf_10, rf_11, rf_12, rf_13, rf_14, rf_15, rf_16, rf_17, rf_18, rf_19, rf_20, rf_21, rf_22, rf_23, rf_24, rf_25, rf_26, rf_27, rf_28, rf_29, rf_30, rf_31, rf_32, rf_33, rf_34, rp_0, rp_2, rp_5, rp_7, rp_8, rp_9, rp_10, rp_12, rp_16, rp_20, rp_21, rp_22, rp_25, rp_27, rp_30, rp_32, bI_r, bO_some, bF_I, bF_D, bF_C, bC_v, pk_mul, nI_add, Option.toList, List.cons_append, List.nil_append, upd_eq, upr_eq, Nat.reduceEqDiff, reduceIte, rd_8, rd_9, rd_10, rd_12, rd_u9, rd_u10s, rd_u12, enc_n, enc_s, zI_0, if_true, if_false, eq_self, not_true_eq_false, not_false_eq_true, h1, Option.getD_some]
theorem ro_end {H : AH} (hk : 0 < k) (hk3 : k < 3) : Run sc n_X10_readOperand 134 [aD 51, aI x1, aI (zI mi), aI v, aI (nI k)] none [] H = some (.inl (some (aI (if mi = true then -v else v))), H) := by
  have h1 : ¬ nI k = 0 := fun z => by
    have := nI_inj (b := 0) (by omega) (by omega) z
    omega
  cases mi <;> simp only [e_X10_readOperand_134, e_X10_readOperand_143, e_X10_readOperand_147, e_X10_readOperand_152, e_X10_readOperand_153, h1, zI_0, if_true, if_false, eq_self, not_true_eq_false, not_false_eq_true, reduceCtorEq]
theorem ro_num (h8 : φ 8 = nI len) (hl : len ≤ 120) (hp : p ≤ len) : Run sc n_X10_readOperand 84 [aD 51, aI x1, aI (zI mi), aI (nI 0), aI (nI 0)] none [] (rh h (rd φ p none m) ρ) = if dgX (ρ 55) len p = true then some (.inl (some (aI (if mi = true then -(if dgX (ρ 55) len (p + 1) = true then (nI 10 * (ρ 55 p - nI 48) + ρ 55 (p + 1)) - nI 48 else ρ 55 p - nI 48) else (if dgX (ρ 55) len (p + 1) = true then (nI 10 * (ρ 55 p - nI 48) + ρ 55 (p + 1)) - nI 48 else ρ 55 p - nI 48)))), rh h (rd φ (if dgX (ρ 55) len (p + 1) = true then p + 2 else p + 1) none m) ρ) else some (.inl (some (aI (if mi = true then -(nI 0) else nI 0))), rh h (rd φ p (some p) m) ρ) := by
  have d1 := r_isDigit (sc := sc) (h := h) (φ := φ) (ρ := ρ) (ft := none) (m := m) h8 hl hp
  have hz : nI 0 + ρ 55 p = ρ 55 p := Int32.zero_add _
  by_cases hd : dgX (ρ 55) len p = true
  · have hlt := dg_lt hd
    have s1 := r_sign (sc := sc) (h := h) (φ := φ) (ρ := ρ) (ft := none) (m := m) h8 hl hp
    have hs1 : sgX (ρ 55) len p = ρ 55 p := if_pos hlt
    have d2 := r_isDigit (sc := sc) (h := h) (φ := φ) (ρ := ρ) (ft := none) (m := m) h8 hl (show p + 1 ≤ len by omega)
    rw [if_pos hd]
    rw [hd] at d1
    rw [hs1] at s1
    by_cases hd2 : dgX (ρ 55) len (p + 1) = true
    · have hlt2 := dg_lt hd2
      have s2 := r_sign (sc := sc) (h := h) (φ := φ) (ρ := ρ) (ft := none) (m := m) h8 hl (show p + 1 ≤ len by omega)
      have hs2 : sgX (ρ 55) len (p + 1) = ρ 55 (p + 1) := if_pos hlt2
      rw [hd2] at d2
      rw [hs2] at s2
      rw [if_pos hd2, if_pos hd2]
      simp only [e_X10_readOperand_84, e_X10_readOperand_88, e_X10_readOperand_92, e_X10_readOperand_98, e_X10_readOperand_102, e_X10_readOperand_105, e_X10_readOperand_113, e_X10_readOperand_126, e_X10_readOperand_131, rf_0, rf_1, rf_2, rf_3, rf_4, rf_5, rf_6, rf_7, rf_8, rf_9, rf_10, rf_11, rf_12, rf_13, rf_14, rf_15, rf_16, rf_17, rf_18, rf_19, rf_20, rf_21, rf_22, rf_23, rf_24, rf_25, rf_26, rf_27, rf_28, rf_29, rf_30, rf_31, rf_32, rf_33, rf_34, rp_0, rp_2, rp_5, rp_7, rp_8, rp_9, rp_10, rp_12, rp_16, rp_20, rp_21, rp_22, rp_25, rp_27, rp_30, rp_32, bI_r, bO_some, bF_I, bF_D, bF_C, bC_v, pk_mul, nI_add, Option.toList, List.cons_append, List.nil_append, upd_eq, upr_eq, Nat.reduceEqDiff, reduceIte, rd_8, rd_9, rd_10, rd_12, rd_u9, rd_u10s, rd_u12, enc_n, enc_s, zI_0, if_true, if_false, eq_self, not_true_eq_false, not_false_eq_true, reduceCtorEq, d1, d2, s1, s2, show ¬ nI 2 ≤ nI 0 from by decide, show ¬ nI 2 ≤ nI 1 from by decide, show nI 2 ≤ nI 2 from by decide, Nat.reduceMul, Nat.reduceAdd, Nat.zero_add, hz]
      exact ro_end (by omega) (by omega)
    · have hd3 := hd2
      rw [Bool.not_eq_true] at hd3
      rw [hd3] at d2
      rw [if_neg hd2, if_neg hd2]
      simp only [e_X10_readOperand_84, e_X10_readOperand_88, e_X10_readOperand_92, e_X10_readOperand_98, e_X10_readOperand_102, e_X10_readOperand_105, e_X10_readOperand_113, e_X10_readOperand_126, e_X10_readOperand_131, rf_0, rf_1, rf_2, rf_3, rf_4, rf_5, rf_6, rf_7, rf_8, rf_9, rf_10, rf_11, rf_12, rf_13, rf_14, rf_15, rf_16, rf_17, rf_18, rf_19, rf_20, rf_21, rf_22, rf_23, rf_24, rf_25, rf_26, rf_27, rf_28, rf_29, rf_30, rf_31, rf_32, rf_33, rf_34, rp_0, rp_2, rp_5, rp_7, rp_8, rp_9, rp_10, rp_12, rp_16, rp_20, rp_21, rp_22, rp_25, rp_27, rp_30, rp_32, bI_r, bO_some, bF_I, bF_D, bF_C, bC_v, pk_mul, nI_add, Option.toList, List.cons_append, List.nil_append, upd_eq, upr_eq, Nat.reduceEqDiff, reduceIte, rd_8, rd_9, rd_10, rd_12, rd_u9, rd_u10s, rd_u12, enc_n, enc_s, zI_0, if_true, if_false, eq_self, not_true_eq_false, not_false_eq_true, reduceCtorEq, d1, d2, s1, show ¬ nI 2 ≤ nI 0 from by decide, show ¬ nI 2 ≤ nI 1 from by decide, Nat.reduceMul, Nat.reduceAdd, Nat.zero_add, hz]
      exact ro_end (by omega) (by omega)
  · have hd3 := hd
    rw [Bool.not_eq_true] at hd3
    rw [hd3] at d1
    rw [if_neg hd]
    have f1 := r_fault (sc := sc) (h := h) (φ := φ) (ρ := ρ) (pos := p) (ft := none) (m := m) (fun f z => by cases z)
    cases mi <;> simp only [e_X10_readOperand_84, e_X10_readOperand_88, e_X10_readOperand_92, e_X10_readOperand_98, e_X10_readOperand_102, e_X10_readOperand_134, e_X10_readOperand_139, e_X10_readOperand_143, e_X10_readOperand_147, e_X10_readOperand_152, e_X10_readOperand_153, rf_0, rf_1, rf_2, rf_3, rf_4, rf_5, rf_6, rf_7, rf_8, rf_9, rf_10, rf_11, rf_12, rf_13, rf_14, rf_15, rf_16, rf_17, rf_18, rf_19, rf_20, rf_21, rf_22, rf_23, rf_24, rf_25, rf_26, rf_27, rf_28, rf_29, rf_30, rf_31, rf_32, rf_33, rf_34, rp_0, rp_2, rp_5, rp_7, rp_8, rp_9, rp_10, rp_12, rp_16, rp_20, rp_21, rp_22, rp_25, rp_27, rp_30, rp_32, bI_r, bO_some, bF_I, bF_D, bF_C, bC_v, pk_mul, nI_add, Option.toList, List.cons_append, List.nil_append, upd_eq, upr_eq, Nat.reduceEqDiff, reduceIte, rd_8, rd_9, rd_10, rd_12, rd_u9, rd_u10s, rd_u12, enc_n, enc_s, zI_0, if_true, if_false, eq_self, not_true_eq_false, not_false_eq_true, reduceCtorEq, d1, f1, show ¬ nI 2 ≤ nI 0 from by decide, show (nI 0 = 0) = True from eq_true (by decide), Option.getD_none]
def roX (c : Nat → Int32) (len pos : Nat) (neg : Bool) : Bool × Nat × Int32 := if psX c len pos (nI 32) = true then nuX c len (pos + 1) neg else (false, pos, 0)
theorem r_readOperand (h8 : φ 8 = nI len) (hl : len ≤ 120) (hp : pos ≤ len) (neg : Bool) : ∃ v, Call sc n_X10_readOperand [aD 51, aI (zI neg)] (rh h (rd φ pos none m) ρ) = some (.inl (some (aI v)), rh h (rd φ (roX (ρ 55) len pos neg).2.1 (if (roX (ρ 55) len pos neg).1 = true then none else some (roX (ρ 55) len pos neg).2.1) m) ρ) ∧ ((roX (ρ 55) len pos neg).1 = true → v = (roX (ρ 55) len pos neg).2.2) ∧ (roX (ρ 55) len pos neg).2.1 ≤ len := by
  have s1 := r_sign (sc := sc) (h := h) (φ := φ) (ρ := ρ) (ft := none) (m := m) h8 hl hp
  have hsp := sg_ps (c := ρ 55) (len := len) (pos := pos) (x := nI 32) (by decide)
  have z1 : (nI 1 = 0) = False := eq_false (by decide)
  have z0 : (nI 0 = 0) = True := eq_true (by decide)
  unfold roX
  by_cases h32 : psX (ρ 55) len pos (nI 32) = true
  · rw [if_pos h32]
    have hlt : pos < len := by
      unfold psX at h32
      rw [Bool.and_eq_true] at h32
      exact of_decide_eq_true h32.1
    have s2 := r_sign (sc := sc) (h := h) (φ := φ) (ρ := ρ) (ft := none) (m := m) h8 hl (show pos + 1 ≤ len by omega)
    have hsp2 := sg_ps (c := ρ 55) (len := len) (pos := pos + 1) (x := nI 45) (by decide)
    have T60 : ∀ mi : Bool, (mi = true → pos + 2 ≤ len) → ∃ v, Run sc n_X10_readOperand 60 [aD 51, aI (zI neg), aU, aU, aU] none [aI (zI mi)] (rh h (rd φ (pos + 1) none m) ρ) = (let p1 := if mi = true then pos + 1 + 1 else pos + 1
        some (.inl (some (aI v)), rh h (rd φ (if dgX (ρ 55) len p1 = true then (if dgX (ρ 55) len (p1 + 1) = true then p1 + 2 else p1 + 1) else p1) (if dgX (ρ 55) len p1 = true then none else some p1) m) ρ)) ∧ (let p1 := if mi = true then pos + 1 + 1 else pos + 1
        dgX (ρ 55) len p1 = true → v = (if mi = true then -(if dgX (ρ 55) len (p1 + 1) = true then (nI 10 * (ρ 55 p1 - nI 48) + ρ 55 (p1 + 1)) - nI 48 else ρ 55 p1 - nI 48) else (if dgX (ρ 55) len (p1 + 1) = true then (nI 10 * (ρ 55 p1 - nI 48) + ρ 55 (p1 + 1)) - nI 48 else ρ 55 p1 - nI 48))) := by
      intro mi hmi
      have q1 := fun p1 hp1 => ro_num (sc := sc) (h := h) (φ := φ) (ρ := ρ) (m := m) (p := p1) (x1 := zI neg) (mi := mi) h8 hl hp1
      have q2 : Run sc n_X10_readOperand 60 [aD 51, aI (zI neg), aU, aU, aU] none [aI (zI mi)] (rh h (rd φ (pos + 1) none m) ρ) = Run sc n_X10_readOperand 84 [aD 51, aI (zI neg), aI (zI mi), aI (nI 0), aI (nI 0)] none [] (rh h (rd φ (if mi = true then pos + 1 + 1 else pos + 1) none m) ρ) := by
        cases mi <;> simp only [e_X10_readOperand_60, e_X10_readOperand_66, e_X10_readOperand_70, e_X10_readOperand_74, e_X10_readOperand_75, e_X10_readOperand_79, rf_0, rf_1, rf_2, rf_3, rf_4, rf_5, rf_6, rf_7, rf_8, rf_9, rf_10, rf_11, rf_12, rf_13, rf_14, rf_15, rf_16, rf_17, rf_18, rf_19, rf_20, rf_21, rf_22, rf_23, rf_24, rf_25, rf_26, rf_27, rf_28, rf_29, rf_30, rf_31, rf_32, rf_33, rf_34, rp_0, rp_2, rp_5, rp_7, rp_8, rp_9, rp_10, rp_12, rp_16, rp_20, rp_21, rp_22, rp_25, rp_27, rp_30, rp_32, bI_r, bO_some, bF_I, bF_D, bF_C, bC_v, pk_mul, nI_add, Option.toList, List.cons_append, List.nil_append, upd_eq, upr_eq, Nat.reduceEqDiff, reduceIte, rd_8, rd_9, rd_10, rd_12, rd_u9, rd_u10s, rd_u12, enc_n, enc_s, zI_0, if_true, if_false, eq_self, not_true_eq_false, not_false_eq_true, reduceCtorEq, Nat.add_zero]
      have hb : (if mi = true then pos + 1 + 1 else pos + 1) ≤ len := by
        split
        · rename_i z
          have := hmi z
          omega
        · omega
      rw [q2, q1 _ hb]
      clear hb
      generalize (if mi = true then pos + 1 + 1 else pos + 1) = p1
      simp only
      by_cases hd : dgX (ρ 55) len p1 = true
      · rw [if_pos hd, if_pos hd, if_pos hd]
        exact ⟨_, rfl, fun _ => rfl⟩
      · rw [if_neg hd, if_neg hd, if_neg hd]
        exact ⟨_, rfl, fun z => absurd z hd⟩
    have hfin : ∀ mi : Bool, mi = (neg && psX (ρ 55) len (pos + 1) (nI 45)) → Call sc n_X10_readOperand [aD 51, aI (zI neg)] (rh h (rd φ pos none m) ρ) = Run sc n_X10_readOperand 60 [aD 51, aI (zI neg), aU, aU, aU] none [aI (zI mi)] (rh h (rd φ (pos + 1) none m) ρ) := by
      intro mi hmi
      subst hmi
      simp only [c0_X10_readOperand, e_X10_readOperand_0, e_X10_readOperand_4, e_X10_readOperand_8, e_X10_readOperand_12, e_X10_readOperand_17, e_X10_readOperand_22, e_X10_readOperand_27, e_X10_readOperand_34, e_X10_readOperand_38, e_X10_readOperand_42, rf_0, rf_1, rf_2, rf_3, rf_4, rf_5, rf_6, rf_7, rf_8, rf_9, rf_10, rf_11, rf_12, rf_13, rf_14, rf_15, rf_16, rf_17, rf_18, rf_19, rf_20, rf_21, rf_22, rf_23, rf_24, rf_25, rf_26, rf_27, rf_28, rf_29, rf_30, rf_31, rf_32, rf_33, rf_34, rp_0, rp_2, rp_5, rp_7, rp_8, rp_9, rp_10, rp_12, rp_16, rp_20, rp_21, rp_22, rp_25, rp_27, rp_30, rp_32, bI_r, bO_some, bF_I, bF_D, bF_C, bC_v, pk_mul, nI_add, Option.toList, List.cons_append, List.nil_append, upd_eq, upr_eq, Nat.reduceEqDiff, reduceIte, rd_8, rd_9, rd_10, rd_12, rd_u9, rd_u10s, rd_u12, enc_n, enc_s, zI_0, if_true, if_false, eq_self, not_true_eq_false, not_false_eq_true, s1, hsp, h32]
      cases neg
      · simp only [zI_0, if_true, if_false, eq_self, not_true_eq_false, not_false_eq_true, e_X10_readOperand_59, Bool.false_and]
        rfl
      · simp only [zI_0, if_true, if_false, eq_self, not_true_eq_false, not_false_eq_true, reduceCtorEq, e_X10_readOperand_46, e_X10_readOperand_50, rf_0, rf_1, rf_2, rf_3, rf_4, rf_5, rf_6, rf_7, rf_8, rf_9, rf_10, rf_11, rf_12, rf_13, rf_14, rf_15, rf_16, rf_17, rf_18, rf_19, rf_20, rf_21, rf_22, rf_23, rf_24, rf_25, rf_26, rf_27, rf_28, rf_29, rf_30, rf_31, rf_32, rf_33, rf_34, rp_0, rp_2, rp_5, rp_7, rp_8, rp_9, rp_10, rp_12, rp_16, rp_20, rp_21, rp_22, rp_25, rp_27, rp_30, rp_32, bI_r, bO_some, bF_I, bF_D, bF_C, bC_v, pk_mul, nI_add, Option.toList, List.cons_append, List.nil_append, upd_eq, upr_eq, Nat.reduceEqDiff, reduceIte, s2, hsp2, Bool.true_and]
        cases psX (ρ 55) len (pos + 1) (nI 45)
        · simp only [reduceCtorEq, zI_0, if_true, if_false, eq_self, not_true_eq_false, not_false_eq_true, e_X10_readOperand_59]
          rfl
        · simp only [zI_0, if_true, if_false, eq_self, not_true_eq_false, not_false_eq_true, e_X10_readOperand_55]
          rfl
    have hmi : (neg && psX (ρ 55) len (pos + 1) (nI 45)) = true → pos + 2 ≤ len := by
      intro z
      rw [Bool.and_eq_true] at z
      have := z.2
      unfold psX at this
      rw [Bool.and_eq_true] at this
      have := of_decide_eq_true this.1
      omega
    obtain ⟨v, q1, q2⟩ := T60 _ hmi
    refine ⟨v, (hfin _ rfl).trans ?_, ?_, ?_⟩
    · rw [q1]
      unfold nuX
      simp only
      generalize (if (neg && psX (ρ 55) len (pos + 1) (nI 45)) = true then pos + 1 + 1 else pos + 1) = p1
      by_cases hd : dgX (ρ 55) len p1 = true
      · simp only [hd, if_true]
      · simp only [hd, if_false, reduceCtorEq]
    · intro z
      unfold nuX at z ⊢
      simp only at q2 z ⊢
      generalize (if (neg && psX (ρ 55) len (pos + 1) (nI 45)) = true then pos + 1 + 1 else pos + 1) = p1 at *
      by_cases hd : dgX (ρ 55) len p1 = true
      · rw [q2 hd]
        simp only [hd, if_true]
      · simp only [hd, if_false, reduceCtorEq] at z
    · unfold nuX
      simp only
      have hp1 : (if (neg && psX (ρ 55) len (pos + 1) (nI 45)) = true then pos + 1 + 1 else pos + 1) ≤ len := by
        split
        · rename_i z
          have := hmi z
          omega
        · omega
      generalize (if (neg && psX (ρ 55) len (pos + 1) (nI 45)) = true then pos + 1 + 1 else pos + 1) = p1 at *
      by_cases hd : dgX (ρ 55) len p1 = true
      · have := dg_lt hd
        simp only [hd, if_true]
        split
        · rename_i z
          have := dg_lt z
          omega
        · omega
      · simp only [hd, if_false, reduceCtorEq]
        exact hp1
  · rw [if_neg h32]
    have f1 := r_fault (sc := sc) (h := h) (φ := φ) (ρ := ρ) (pos := pos) (ft := none) (m := m) (fun f z => by cases z)
    have f2 := r_fault (sc := sc) (h := h) (φ := φ) (ρ := ρ) (pos := pos) (ft := some pos) (m := m) (fun f z => by cases z; omega)
    have hne : ¬ nI pos = -1 := enc_ne (by omega)
    refine ⟨nI 0, ?_, (fun z => by cases z), hp⟩
    simp only [c0_X10_readOperand, e_X10_readOperand_0, e_X10_readOperand_4, e_X10_readOperand_8, e_X10_readOperand_12, e_X10_readOperand_17, e_X10_readOperand_22, e_X10_readOperand_27, e_X10_readOperand_30, e_X10_readOperand_34, e_X10_readOperand_38, e_X10_readOperand_42, e_X10_readOperand_46, e_X10_readOperand_50, e_X10_readOperand_55, e_X10_readOperand_59, e_X10_readOperand_60, e_X10_readOperand_66, e_X10_readOperand_70, e_X10_readOperand_74, e_X10_readOperand_75, e_X10_readOperand_79, e_X10_readOperand_84, e_X10_readOperand_88, e_X10_readOperand_92, e_X10_readOperand_98, e_X10_readOperand_102, e_X10_readOperand_105, e_X10_readOperand_113, e_X10_readOperand_126, e_X10_readOperand_131, e_X10_readOperand_134, e_X10_readOperand_139, e_X10_readOperand_143, e_X10_readOperand_147, e_X10_readOperand_152, e_X10_readOperand_153, rf_0, rf_1, rf_2, rf_3, rf_4, rf_5, rf_6, rf_7, rf_8, rf_9, rf_10, rf_11, rf_12, rf_13, rf_14, rf_15, rf_16, rf_17, rf_18, rf_19, rf_20, rf_21, rf_22, rf_23, rf_24, rf_25, rf_26, rf_27, rf_28, rf_29, rf_30, rf_31, rf_32, rf_33, rf_34, rp_0, rp_2, rp_5, rp_7, rp_8, rp_9, rp_10, rp_12, rp_16, rp_20, rp_21, rp_22, rp_25, rp_27, rp_30, rp_32, bI_r, bO_some, bF_I, bF_D, bF_C, bC_v, pk_mul, nI_add, Option.toList, List.cons_append, List.nil_append, upd_eq, upr_eq, Nat.reduceEqDiff, reduceIte, rd_8, rd_9, rd_10, rd_12, rd_u9, rd_u10s, rd_u12, enc_n, enc_s, zI_0, if_true, if_false, eq_self, not_true_eq_false, not_false_eq_true, reduceCtorEq, s1, hsp, h32, f1, f2, hne, Option.getD_none, Option.getD_some, z0, Nat.add_zero]
end
