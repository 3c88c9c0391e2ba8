/-! PURE 40: the reference: what stands against a fill -/
def prX (X : Nat → Nat → Int32) (n : Nat) (x y : Int32) : Nat := if ¬ (¬ x < 0 ∧ ¬ nI n ≤ x) then 1 else if ¬ (¬ y < nI 0 ∧ ¬ nI 2 < y) then 2 else if ¬ (kBr (kx X x.toNatClampNeg) = true ∧ kx X (x.toNatClampNeg + 1) = 0) then 3 else if fdX X n x.toNatClampNeg y.toNatClampNeg = none then 4 else 0
theorem has_ex {n : Nat} {x : Int32} (hn : n < 2 ^ 31) (h1 : ¬ x < 0 ∧ ¬ nI n ≤ x) : ∃ b, b < n ∧ x = nI b := by
  have h2 := Int32.not_le.mp h1.2
  rw [Int32.lt_iff_toInt_lt, nI_toInt hn] at h2
  have h3 := h1.1
  rw [Int32.lt_iff_toInt_lt] at h3
  have h4 : (0 : Int32).toInt = 0 := by decide
  rw [h4] at h3
  refine ⟨x.toInt.toNat, by omega, ?_⟩
  apply Int32.toInt_inj.mp
  rw [nI_toInt (by omega)]
  omega
section
variable {sc : SC} {h h' : AH} {p qf ql n i b : Nat} {fs : List AV} {g l : Nat → Int32} {x y : Int32}
theorem c_problem (o : FO h p fs qf n g) (ol : LO h p fs ql l) (hp : ¬ p = ql) (hq : ¬ qf = ql) (hw : WF n (xM n g)) (x y : Int32) : ∃ l', Call sc n_X10_problem [aD p, aI x, aI y] h = some (.inl (some (aI (nI (prX (xM n g) n x y)))), lset h ql l') := by
  have hn := o.2.2.2.2
  have e1 := c_isEntry (sc := sc) o x
  unfold prX
  by_cases h1 : ¬ x < 0 ∧ ¬ nI n ≤ x
  · rw [if_neg (fun z => z h1)]
    obtain ⟨b, hb, rfl⟩ := has_ex (by omega) h1
    rw [decide_eq_true h1] at e1
    simp only [c0_X10_problem, e_X10_problem_0, e_X10_problem_5, e_X10_problem_10, e_X10_problem_16, bI_t o.ok, e1, c_isIn, bO_some, bF_I, bF_D, bF_C, bC_v, pk_mul, nI_add, Option.toList, List.cons_append, List.nil_append, zI_0, if_true, if_false, eq_self, not_true_eq_false, not_false_eq_true, reduceCtorEq, nI_clamp (show b < 2 ^ 31 by omega)]
    by_cases h2 : ¬ y < nI 0 ∧ ¬ nI 2 < y
    · rw [if_pos (show ¬ decide (¬ y < nI 0 ∧ ¬ nI 2 < y) = false by rw [decide_eq_true h2]; decide), if_neg (show ¬ ¬ (¬ y < nI 0 ∧ ¬ nI 2 < y) from fun z => z h2)]
      have h3 : ¬ y < 0 ∧ ¬ nI 3 ≤ y := ⟨h2.1, fun z => h2.2 (by
        rw [Int32.le_iff_toInt_le] at z
        rw [Int32.lt_iff_toInt_lt]
        have a3 : (nI 3).toInt = 3 := by decide
        have a2 : (nI 2).toInt = 2 := by decide
        omega)⟩
      obtain ⟨way, hway, rfl⟩ := has_ex (by omega) h3
      have e0 := c_atK (sc := sc) o hw.1 hb
      have kb := (hw.1 b hb).2
      rw [nI_clamp (show way < 2 ^ 31 by omega)]
      simp only [e_X10_problem_23, e_X10_problem_29, e_X10_problem_32, bI_t o.ok, e0, c_isBranch kb, bO_some, bF_I, bF_D, bF_C, bC_v, pk_mul, nI_add, Option.toList, List.cons_append, List.nil_append]
      by_cases hk : kBr (kx (xM n g) b) = true
      · have hb2 := hw.2.2.1 b hb hk
        have e2 := c_atK (sc := sc) o hw.1 hb2
        have kb2 := (hw.1 (b + 1) hb2).2
        simp only [hk, e_X10_problem_35, e_X10_problem_43, bI_t o.ok, e2, bO_some, bF_I, bF_D, bF_C, bC_v, pk_mul, nI_add, Option.toList, List.cons_append, List.nil_append, zI_0, if_true, if_false, eq_self, not_true_eq_false, not_false_eq_true, reduceCtorEq, true_and]
        by_cases h0 : kx (xM n g) (b + 1) = 0
        · obtain ⟨l', e3⟩ := c_candidateOf (sc := sc) o ol hp hq hw.1 hw.2.1 hw.2.2.1 hb hk hway
          refine ⟨l', ?_⟩
          rw [if_pos (show nI (kx (xM n g) (b + 1)) = 0 by rw [h0]; rfl), if_neg (show ¬ ¬ kx (xM n g) (b + 1) = 0 from fun z => z h0)]
          simp only [e_X10_problem_50, e_X10_problem_56, bI_t o.ok, e3, bO_some, bF_I, bF_D, bF_C, bC_v, pk_mul, nI_add, Option.toList, List.cons_append, List.nil_append]
          cases hf : fdX (xM n g) n b way with
          | none =>
            simp only [enc, e_X10_problem_60, e_X10_problem_65, bO_some, bF_I, bF_D, bF_C, bC_v, pk_mul, nI_add, Option.toList, List.cons_append, List.nil_append, zI_0, if_true, if_false, eq_self, not_true_eq_false, not_false_eq_true]
          | some e =>
            have h5 := fd_ok hb hw hk hf
            simp only [enc, enc_ne (show e < 2 ^ 31 by omega), e_X10_problem_64, e_X10_problem_65, bO_some, bF_I, bF_D, bF_C, bC_v, pk_mul, nI_add, Option.toList, List.cons_append, List.nil_append, zI_0, if_true, if_false, eq_self, not_true_eq_false, not_false_eq_true, reduceCtorEq]
        · refine ⟨l, ?_⟩
          rw [if_neg (show ¬ nI (kx (xM n g) (b + 1)) = 0 from fun z => h0 (nI_inj (b := 0) (by omega) (by omega) z)), if_pos (show ¬ kx (xM n g) (b + 1) = 0 from h0), ol.self, e_X10_problem_46, e_X10_problem_65]
      · refine ⟨l, ?_⟩
        rw [if_pos (fun z => hk z.1), ol.self]
        rw [Bool.not_eq_true] at hk
        simp only [hk, e_X10_problem_46, e_X10_problem_65, bO_some, bF_I, bF_D, bF_C, bC_v, pk_mul, nI_add, Option.toList, List.cons_append, List.nil_append, zI_0, if_true, if_false, eq_self, not_true_eq_false, not_false_eq_true]
    · refine ⟨l, ?_⟩
      rw [if_neg (show ¬ ¬ decide (¬ y < nI 0 ∧ ¬ nI 2 < y) = false by rw [decide_eq_false h2]; decide), if_pos h2, ol.self, e_X10_problem_19, e_X10_problem_65]
  · refine ⟨l, ?_⟩
    rw [if_pos h1, ol.self]
    rw [decide_eq_false h1] at e1
    simp only [c0_X10_problem, e_X10_problem_0, e_X10_problem_5, e_X10_problem_8, bI_t o.ok, e1, bO_some, bF_I, bF_D, bF_C, bC_v, pk_mul, nI_add, Option.toList, List.cons_append, List.nil_append, zI_0, if_true, if_false, eq_self, not_true_eq_false, not_false_eq_true, reduceCtorEq]
end
