/-! PURE 32: the reference: candidates -/
theorem plain_k {k : Nat} (hk : k < 12) : (k = 0 → cfK k = false) ∧ (kBr k = true → cfK k = false) ∧ (k = 11 → cfK k = false) ∧ (¬ k = 0 → kBr k = false → ¬ k = 11 → cfK k = true) := by
  rcases twelve hk with rfl | rfl | rfl | rfl | rfl | rfl | rfl | rfl | rfl | rfl | rfl | rfl <;> decide
section
variable {sc : SC} {h h' : AH} {p qf ql n i j k b w : Nat} {fs : List AV} {g l l' z : Nat → Int32} {x x1 x2 x3 lo hi : Int32} {S : Nat → Prop} {v2 v3 v4 v5 : AV}
theorem c_isPlain (o : FO h p fs qf n g) (hv : VK n (xM n g)) (hi : i < n) : Call sc n_X10_isPlain [aD p, aI (nI i)] h = some (.inl (some (aI (zI (cfK (kx (xM n g) i))))), h) := by
  have k1 := (hv i hi).2
  obtain ⟨p1, p2, p3, p4⟩ := plain_k k1
  have e0 := c_atK (sc := sc) o hv hi
  simp only [c0_X10_isPlain, e_X10_isPlain_0, e_X10_isPlain_6, bI_t o.ok, e0, bO_some, bF_I, bF_D, bF_C, bC_v, pk_mul, nI_add, Option.toList, List.cons_append, List.nil_append]
  by_cases h0 : kx (xM n g) i = 0
  · rw [if_pos (by rw [h0]; rfl), e_X10_isPlain_28, e_X10_isPlain_29, p1 h0]
    exact bI_t rfl _
  · rw [if_neg (show ¬ nI (kx (xM n g) i) = 0 from fun z => h0 (nI_inj (b := 0) (by omega) (by omega) z)), e_X10_isPlain_11, c_isBranch k1, bC_v]
    simp only [bO_some, bF_I, bF_D, bF_C, bC_v, pk_mul, nI_add, Option.toList, List.cons_append, List.nil_append, e_X10_isPlain_15]
    by_cases hb : kBr (kx (xM n g) i) = true
    · simp only [hb, e_X10_isPlain_28, e_X10_isPlain_29, zI_0, if_true, if_false, eq_self, not_true_eq_false, not_false_eq_true, reduceCtorEq, p2 hb]
      exact bI_t rfl _
    · rw [Bool.not_eq_true] at hb
      simp only [hb, e_X10_isPlain_18, zI_0, if_true, if_false, eq_self, not_true_eq_false, not_false_eq_true, eqI (show kx (xM n g) i < 2 ^ 31 by omega) (show 11 < 2 ^ 31 by omega)]
      by_cases h11 : kx (xM n g) i = 11
      · rw [if_pos h11, e_X10_isPlain_28, e_X10_isPlain_29, p3 h11]
        exact bI_t rfl _
      · rw [if_neg h11, e_X10_isPlain_24, e_X10_isPlain_29, p4 h0 hb h11]
        exact bI_t rfl _
theorem l_bc_in (o : FO h p fs qf n g) (hv : VK n (xM n g)) (hi : i < n) (hb : b < n) : ∀ d k, k + d = b + 1 → ∀ is : Bool, Run sc n_X10_beforeCandidate 62 [aD p, aI (nI b), aI (nI i), aI x3, aI (zI is), aI (nI k)] none [] h = Run sc n_X10_beforeCandidate 96 [aD p, aI (nI b), aI (nI i), aI x3, aI (zI (is && cpX (xM n g) i d k)), aI (nI (b + 1))] none [] h := by
  have hn := o.2.2.2.2
  intro d
  induction d with
  | zero =>
    intro k hk is
    have : k = b + 1 := by omega
    subst this
    rw [e_X10_beforeCandidate_62, if_pos (Int32.not_le.mp (nI_ge (by omega) (by omega)))]
    simp only [cpX, Bool.and_true]
  | succ d ih =>
    intro k hk is
    have h1 : ¬ nI b < nI k := Int32.not_lt.mpr (nI_le (by omega) (by omega))
    have e1 := c_X10_areIndependent (sc := sc) o hv hi (show k < n by omega)
    rw [e_X10_beforeCandidate_62, if_neg h1]
    cases is
    · have h2 := ih (k + 1) (by omega) false
      rw [Bool.false_and] at h2 ⊢
      simp only [e_X10_beforeCandidate_68, e_X10_beforeCandidate_87, e_X10_beforeCandidate_88, bO_some, bF_I, bF_D, bF_C, bC_v, pk_mul, nI_add, Option.toList, List.cons_append, List.nil_append, zI_0, if_true, if_false, eq_self, not_true_eq_false, not_false_eq_true]
      exact h2
    · rw [Bool.true_and]
      simp only [e_X10_beforeCandidate_68, e_X10_beforeCandidate_73, e_X10_beforeCandidate_80, bI_t o.ok, e1, bO_some, bF_I, bF_D, bF_C, bC_v, pk_mul, nI_add, Option.toList, List.cons_append, List.nil_append, zI_0, if_true, if_false, eq_self, not_true_eq_false, not_false_eq_true, reduceCtorEq]
      by_cases hh : indX (xM n g) i k = true
      · have h2 := ih (k + 1) (by omega) true
        rw [Bool.true_and] at h2
        simp only [cpX, hh, Bool.true_and, e_X10_beforeCandidate_83, e_X10_beforeCandidate_88, bO_some, bF_I, bF_D, bF_C, bC_v, pk_mul, nI_add, Option.toList, List.cons_append, List.nil_append, zI_0, if_true, if_false, eq_self, not_true_eq_false, not_false_eq_true, reduceCtorEq]
        exact h2
      · rw [Bool.not_eq_true] at hh
        have h2 := ih (k + 1) (by omega) false
        rw [Bool.false_and] at h2
        simp only [cpX, hh, Bool.false_and, e_X10_beforeCandidate_87, e_X10_beforeCandidate_88, bO_some, bF_I, bF_D, bF_C, bC_v, pk_mul, nI_add, Option.toList, List.cons_append, List.nil_append, zI_0, if_true, if_false, eq_self, not_true_eq_false, not_false_eq_true]
        exact h2
theorem l_bc (o : FO h p fs qf n g) (hv : VK n (xM n g)) (hb : b < n) (h0 : toX n (xM n g) (nI b) = 0) : ∀ j, j ≤ b → ∀ v3 v4 v5, Run sc n_X10_beforeCandidate 4 [aD p, aI (nI b), aI (nI j - nI 1), v3, v4, v5] none [] h = some (.inl (some (aI (enc (bfX (xM n g) n b j)))), h) := by
  have hn := o.2.2.2.2
  intro j
  induction j with
  | zero =>
    intro _ v3 v4 v5
    rw [e_X10_beforeCandidate_4, if_pos (by decide), e_X10_beforeCandidate_119]
    rfl
  | succ j ih =>
    intro hj v3 v4 v5
    have hjn : j < n := by omega
    have k1 := (hv j hjn).2
    obtain ⟨p1, p2, p3, p4⟩ := plain_k k1
    have e0 := c_atK (sc := sc) o hv hjn
    have e1 := c_X10_targeted (sc := sc) o hv (nI b)
    rw [h0] at e1
    have e2 := c_X10_targeted (sc := sc) o hv (nI j)
    have e3 := c_X10_isSlot (sc := sc) o hv (show j ≤ n by omega)
    have h3 := nI_le0 (show toX n (xM n g) (nI j) < 2 ^ 31 by have := to_le n (xM n g) (nI j); omega)
    have hbf : bfX (xM n g) n b (j + 1) = (if (kBr (kx (xM n g) j) || (Nat.beq (kx (xM n g) j) 11 || slX (xM n g) j)) = true then none else (if (cfK (kx (xM n g) j) && cpX (xM n g) j (b - j) (j + 1)) = true then some j else if 0 < toX n (xM n g) (nI j) then none else bfX (xM n g) n b j)) := rfl
    have T55 : kBr (kx (xM n g) j) = false → ¬ kx (xM n g) j = 11 → Run sc n_X10_beforeCandidate 46 [aD p, aI (nI b), aI (nI j), aI (nI (kx (xM n g) j)), v4, v5] none [] h = Run sc n_X10_beforeCandidate 96 [aD p, aI (nI b), aI (nI j), aI (nI (kx (xM n g) j)), aI (zI (cfK (kx (xM n g) j) && cpX (xM n g) j (b - j) (j + 1))), aI (nI (b + 1))] none [] h := by
      intro hbr h11
      rw [← l_bc_in o hv hjn hb (b - j) (j + 1) (by omega) (cfK (kx (xM n g) j)), e_X10_beforeCandidate_46]
      by_cases hz : kx (xM n g) j = 0
      · rw [if_pos (by rw [hz]; rfl), e_X10_beforeCandidate_54, e_X10_beforeCandidate_55, nI_add, p1 hz]
        rfl
      · rw [if_neg (show ¬ nI (kx (xM n g) j) = 0 from fun z => hz (nI_inj (b := 0) (by omega) (by omega) z)), e_X10_beforeCandidate_50, e_X10_beforeCandidate_55, nI_add, p4 hz hbr h11]
        rfl
    rw [hbf, dI_s, e_X10_beforeCandidate_4, if_neg (nI_pos (show j < 2 ^ 31 by omega))]
    simp only [e_X10_beforeCandidate_8, e_X10_beforeCandidate_13, e_X10_beforeCandidate_16, e_X10_beforeCandidate_22, e_X10_beforeCandidate_27, bI_t o.ok, e1, e0, c_isBranch k1, bO_some, bF_I, bF_D, bF_C, bC_v, pk_mul, nI_add, Option.toList, List.cons_append, List.nil_append, show (nI 0 = 0) = True from eq_true (by decide), zI_0, if_true, if_false, eq_self, not_true_eq_false, not_false_eq_true]
    by_cases hbr : kBr (kx (xM n g) j) = true
    · simp only [hbr, e_X10_beforeCandidate_44, zI_0, if_true, if_false, eq_self, not_true_eq_false, not_false_eq_true, reduceCtorEq, Bool.true_or]
      rfl
    · rw [Bool.not_eq_true] at hbr
      simp only [hbr, e_X10_beforeCandidate_30, e_X10_beforeCandidate_35, bI_t o.ok, e3, bO_some, bF_I, bF_D, bF_C, bC_v, pk_mul, nI_add, Option.toList, List.cons_append, List.nil_append, zI_0, if_true, if_false, eq_self, not_true_eq_false, not_false_eq_true, Bool.false_or]
      by_cases hs : slX (xM n g) j = true
      · simp only [hs, e_X10_beforeCandidate_44, zI_0, if_true, if_false, eq_self, not_true_eq_false, not_false_eq_true, reduceCtorEq, Bool.or_true]
        rfl
      · rw [Bool.not_eq_true] at hs
        simp only [hs, e_X10_beforeCandidate_38, zI_0, if_true, if_false, eq_self, not_true_eq_false, not_false_eq_true, Bool.or_false, eqI (show kx (xM n g) j < 2 ^ 31 by omega) (show 11 < 2 ^ 31 by omega)]
        by_cases h11 : kx (xM n g) j = 11
        · rw [if_neg (fun z => z h11), e_X10_beforeCandidate_44, h11]
          rfl
        · rw [if_pos h11, beq_f h11, T55 hbr h11, if_neg (by decide), e_X10_beforeCandidate_96]
          by_cases hf : (cfK (kx (xM n g) j) && cpX (xM n g) j (b - j) (j + 1)) = true
          · rw [if_pos hf, hf, if_neg (by decide), e_X10_beforeCandidate_101]
            rfl
          · rw [if_neg hf]
            rw [Bool.not_eq_true] at hf
            rw [hf, if_pos (by decide)]
            simp only [e_X10_beforeCandidate_103, e_X10_beforeCandidate_108, bI_t o.ok, e2, bO_some, bF_I, bF_D, bF_C, bC_v, pk_mul, nI_add, Option.toList, List.cons_append, List.nil_append, h3]
            by_cases h9 : 0 < toX n (xM n g) (nI j)
            · rw [if_neg (fun z => z h9), if_pos h9, e_X10_beforeCandidate_111]
              rfl
            · rw [if_pos h9, if_neg h9, e_X10_beforeCandidate_113, dI_n]
              exact ih (by omega) _ _ _
theorem c_beforeCandidate (o : FO h p fs qf n g) (hv : VK n (xM n g)) (hb : b < n) : Call sc n_X10_beforeCandidate [aD p, aI (nI b)] h = some (.inl (some (aI (enc (btX (xM n g) n b)))), h) := by
  have hn := o.2.2.2.2
  rw [c0_X10_beforeCandidate, e_X10_beforeCandidate_0]
  unfold btX
  by_cases h0 : 0 < toX n (xM n g) (nI b)
  · rw [if_pos h0]
    by_cases hb0 : b = 0
    · subst hb0
      rw [e_X10_beforeCandidate_4, if_pos (by decide), e_X10_beforeCandidate_119]
      rfl
    · have e1 := c_X10_targeted (sc := sc) o hv (nI b)
      have hne : ¬ nI (toX n (xM n g) (nI b)) = 0 := fun z => by
        have := nI_inj (b := 0) (by have := to_le n (xM n g) (nI b); omega) (by omega) z
        omega
      rw [pk_sub (by omega), e_X10_beforeCandidate_4, if_neg (nI_pos (by omega))]
      simp only [e_X10_beforeCandidate_8, e_X10_beforeCandidate_13, e_X10_beforeCandidate_119, bI_t o.ok, e1, hne, bO_some, bF_I, bF_D, bF_C, bC_v, pk_mul, nI_add, Option.toList, List.cons_append, List.nil_append, zI_0, if_true, if_false, eq_self, not_true_eq_false, not_false_eq_true]
      rfl
  · rw [if_neg h0]
    exact l_bc o hv hb (by omega) b (Nat.le_refl b) _ _ _
theorem c_targetCandidate (o : FO h p fs qf n g) (hv : VK n (xM n g)) (ht : VT n (xM n g)) (hb : b < n) (hk : kBr (kx (xM n g) b) = true) : Call sc n_X10_targetCandidate [aD p, aI (nI b)] h = some (.inl (some (aI (enc (atX (xM n g) n b)))), h) := by
  have hn := o.2.2.2.2
  obtain ⟨t1, t2⟩ := lt_at ht hb hk (by omega)
  have e1 := c_at (sc := sc) o hb (show 3 < 5 by omega)
  rw [t1] at e1
  have e2 := c_isEntry (sc := sc) o (nI (ltX (xM n g) b))
  rw [has_nI (by omega) (by omega)] at e2
  simp only [c0_X10_targetCandidate, e_X10_targetCandidate_0, e_X10_targetCandidate_6, e_X10_targetCandidate_12, bI_t o.ok, e1, e2, bO_some, bF_I, bF_D, bF_C, bC_v, pk_mul, nI_add, Option.toList, List.cons_append, List.nil_append]
  unfold atX
  by_cases h1 : ltX (xM n g) b < n
  · have e3 := c_isPlain (sc := sc) o hv h1
    simp only [h1, decide_true, e_X10_targetCandidate_15, e_X10_targetCandidate_20, bI_t o.ok, e3, bO_some, bF_I, bF_D, bF_C, bC_v, pk_mul, nI_add, Option.toList, List.cons_append, List.nil_append, zI_0, if_true, if_false, eq_self, not_true_eq_false, not_false_eq_true, reduceCtorEq, true_and]
    by_cases h2 : cfK (kx (xM n g) (ltX (xM n g) b)) = true
    · simp only [h2, e_X10_targetCandidate_23, e_X10_targetCandidate_28, zI_0, if_true, if_false, eq_self, not_true_eq_false, not_false_eq_true, reduceCtorEq]
      rfl
    · rw [Bool.not_eq_true] at h2
      simp only [h2, e_X10_targetCandidate_27, e_X10_targetCandidate_28, zI_0, if_true, if_false, eq_self, not_true_eq_false, not_false_eq_true, reduceCtorEq]
      rfl
  · simp only [h1, decide_false, e_X10_targetCandidate_27, e_X10_targetCandidate_28, zI_0, if_true, if_false, eq_self, not_true_eq_false, not_false_eq_true, reduceCtorEq, false_and]
    rfl
end
