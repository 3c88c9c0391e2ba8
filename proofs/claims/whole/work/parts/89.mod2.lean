/-! PURE 30: the reference: independence, candidates -/
theorem eqI {a b : Nat} (ha : a < 2 ^ 31) (hb : b < 2 ^ 31) : (nI a = nI b) = (a = b) := propext ⟨nI_inj ha hb, fun z => by rw [z]⟩
section
variable {sc : SC} {h h' : AH} {p qf n i j k b w : Nat} {fs : List AV} {g : Nat → Int32} {x x1 x2 x3 lo hi : Int32} {S : Nat → Prop} {v2 v3 v4 : AV}
theorem c_X10_areIndependent (o : FO h p fs qf n g) (hv : VK n (xM n g)) (hi : i < n) (hj : j < n) : Call sc n_X10_areIndependent [aD p, aI (nI i), aI (nI j)] h = some (.inl (some (aI (zI (indX (xM n g) i j)))), h) := by
  have k1 := (hv i hi).2
  have k2 := (hv j hj).2
  have e1 := c_atK (sc := sc) o hv hi
  have e2 := c_atK (sc := sc) o hv hj
  have r1 := c_X10_reads (sc := sc) o hv hi
  have r2 := c_X10_reads (sc := sc) o hv hj
  have w1 := c_X10_writes (sc := sc) o hv hi
  have w2 := c_X10_writes (sc := sc) o hv hj
  unfold indX
  generalize kx (xM n g) i = a at *
  generalize kx (xM n g) j = c at *
  have t57 : Run sc n_X10_areIndependent 0 [aD p, aI (nI i), aI (nI j), aU, aU] none [] h = Run sc n_X10_areIndependent 57 [aD p, aI (nI i), aI (nI j), aU, aU] none [aI (zI (memK a && (memK c && (decide (a = 6) || decide (c = 6)))))] h := by
    simp only [e_X10_areIndependent_0, e_X10_areIndependent_6, e_X10_areIndependent_12, bI_t o.ok, e1, c_isIn, inMem k1, bO_some, bF_I, bF_D, bF_C, bC_v, pk_mul, nI_add, Option.toList, List.cons_append, List.nil_append]
    by_cases m1 : memK a = true
    · simp only [m1, e_X10_areIndependent_15, e_X10_areIndependent_21, e_X10_areIndependent_27, bI_t o.ok, e2, c_isIn, inMem k2, bO_some, bF_I, bF_D, bF_C, bC_v, pk_mul, nI_add, Option.toList, List.cons_append, List.nil_append, zI_0, if_true, if_false, eq_self, not_true_eq_false, not_false_eq_true, reduceCtorEq, Bool.true_and]
      by_cases m2 : memK c = true
      · simp only [m2, e_X10_areIndependent_30, e_X10_areIndependent_36, bI_t o.ok, e1, bO_some, bF_I, bF_D, bF_C, bC_v, pk_mul, nI_add, Option.toList, List.cons_append, List.nil_append, zI_0, if_true, if_false, eq_self, not_true_eq_false, not_false_eq_true, reduceCtorEq, Bool.true_and, eqI (show a < 2 ^ 31 by omega) (show 6 < 2 ^ 31 by omega)]
        by_cases a6 : a = 6
        · simp only [a6, e_X10_areIndependent_52, zI_0, if_true, if_false, eq_self, not_true_eq_false, not_false_eq_true, decide_true, Bool.true_or]
          rfl
        · simp only [a6, e_X10_areIndependent_41, e_X10_areIndependent_47, bI_t o.ok, e2, bO_some, bF_I, bF_D, bF_C, bC_v, pk_mul, nI_add, Option.toList, List.cons_append, List.nil_append, zI_0, if_true, if_false, eq_self, not_true_eq_false, not_false_eq_true, decide_false, Bool.false_or, eqI (show c < 2 ^ 31 by omega) (show 6 < 2 ^ 31 by omega)]
          by_cases c6 : c = 6
          · simp only [c6, e_X10_areIndependent_52, zI_0, if_true, if_false, eq_self, not_true_eq_false, not_false_eq_true, decide_true]
            rfl
          · simp only [c6, e_X10_areIndependent_56, zI_0, if_true, if_false, eq_self, not_true_eq_false, not_false_eq_true, decide_false]
            rfl
      · rw [Bool.not_eq_true] at m2
        simp only [m2, e_X10_areIndependent_56, zI_0, if_true, if_false, eq_self, not_true_eq_false, not_false_eq_true, Bool.false_and]
        rfl
    · rw [Bool.not_eq_true] at m1
      simp only [m1, e_X10_areIndependent_56, zI_0, if_true, if_false, eq_self, not_true_eq_false, not_false_eq_true, Bool.false_and]
      rfl
  generalize (memK a && (memK c && (decide (a = 6) || decide (c = 6)))) = M at *
  have t85 : Run sc n_X10_areIndependent 57 [aD p, aI (nI i), aI (nI j), aU, aU] none [aI (zI M)] h = Run sc n_X10_areIndependent 85 [aD p, aI (nI i), aI (nI j), aI (zI M), aU] none [aI (zI (decide (a = 7) && decide (c = 7)))] h := by
    simp only [e_X10_areIndependent_57, e_X10_areIndependent_64, bI_t o.ok, e1, bO_some, bF_I, bF_D, bF_C, bC_v, pk_mul, nI_add, Option.toList, List.cons_append, List.nil_append, eqI (show a < 2 ^ 31 by omega) (show 7 < 2 ^ 31 by omega)]
    by_cases a7 : a = 7
    · simp only [a7, e_X10_areIndependent_69, e_X10_areIndependent_75, bI_t o.ok, e2, bO_some, bF_I, bF_D, bF_C, bC_v, pk_mul, nI_add, Option.toList, List.cons_append, List.nil_append, zI_0, if_true, if_false, eq_self, not_true_eq_false, not_false_eq_true, decide_true, Bool.true_and, eqI (show c < 2 ^ 31 by omega) (show 7 < 2 ^ 31 by omega)]
      by_cases c7 : c = 7
      · simp only [c7, e_X10_areIndependent_80, zI_0, if_true, if_false, eq_self, not_true_eq_false, not_false_eq_true, decide_true]
        rfl
      · simp only [c7, e_X10_areIndependent_84, zI_0, if_true, if_false, eq_self, not_true_eq_false, not_false_eq_true, decide_false]
        rfl
    · simp only [a7, e_X10_areIndependent_84, zI_0, if_true, if_false, eq_self, not_true_eq_false, not_false_eq_true, decide_false, Bool.false_and]
      rfl
  generalize (decide (a = 7) && decide (c = 7)) = O at *
  have tf : ∀ y : Bool, Run sc n_X10_areIndependent 135 [aD p, aI (nI i), aI (nI j), aI (zI M), aI (zI O)] none [aI (zI y)] h = some (.inl (some (aI (zI y))), h) := fun y => by
    rw [e_X10_areIndependent_135]
    exact bI_t (zI_ret y) _
  rw [c0_X10_areIndependent]
  refine t57.trans (t85.trans ?_)
  simp only [e_X10_areIndependent_85, e_X10_areIndependent_92, e_X10_areIndependent_97, e_X10_areIndependent_102, bI_t o.ok, r2, w1, w2, bO_some, bF_I, bF_D, bF_C, bC_v, pk_mul, nI_add, Option.toList, List.cons_append, List.nil_append]
  by_cases q1 : (wrX (xM n g) i &&& (rdX (xM n g) j ||| wrX (xM n g) j)) = 0
  · simp only [q1, e_X10_areIndependent_107, e_X10_areIndependent_112, e_X10_areIndependent_117, bI_t o.ok, r1, w2, bO_some, bF_I, bF_D, bF_C, bC_v, pk_mul, nI_add, Option.toList, List.cons_append, List.nil_append, zI_0, if_true, if_false, eq_self, not_true_eq_false, not_false_eq_true, decide_true, Bool.true_and]
    by_cases q2 : (wrX (xM n g) j &&& rdX (xM n g) i) = 0
    · simp only [q2, zI_0, if_true, if_false, eq_self, not_true_eq_false, not_false_eq_true, decide_true, Bool.true_and]
      cases M
      · cases O
        · simp only [e_X10_areIndependent_121, e_X10_areIndependent_125, e_X10_areIndependent_130, zI_0, if_true, if_false, eq_self, not_true_eq_false, not_false_eq_true]
          exact tf true
        · simp only [e_X10_areIndependent_121, e_X10_areIndependent_125, e_X10_areIndependent_134, zI_0, if_true, if_false, eq_self, not_true_eq_false, not_false_eq_true, reduceCtorEq]
          exact tf false
      · simp only [e_X10_areIndependent_121, e_X10_areIndependent_134, zI_0, if_true, if_false, eq_self, not_true_eq_false, not_false_eq_true, reduceCtorEq]
        exact tf false
    · simp only [q2, e_X10_areIndependent_134, zI_0, if_true, if_false, eq_self, not_true_eq_false, not_false_eq_true, decide_false, Bool.false_and]
      exact tf false
  · simp only [q1, e_X10_areIndependent_134, zI_0, if_true, if_false, eq_self, not_true_eq_false, not_false_eq_true, decide_false, Bool.false_and]
    exact tf false
end
