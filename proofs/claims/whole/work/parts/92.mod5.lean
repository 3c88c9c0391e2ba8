/-! PURE 33: the reference: candidates, all ways -/
theorem in67 {k : Nat} (hk : k < 12) : decide (¬ nI k < nI 6 ∧ ¬ nI 7 < nI k) = (decide (k = 6) || decide (k = 7)) := by
  rcases twelve hk with rfl | rfl | rfl | rfl | rfl | rfl | rfl | rfl | rfl | rfl | rfl | rfl <;> decide
section
variable {sc : SC} {h h' : AH} {p qf ql n i j k b w : Nat} {fs : List AV} {g l l' z : Nat → Int32} {x x1 x2 x3 lo hi : Int32} {S : Nat → Prop} {v2 v3 v4 v5 : AV}
theorem c_fallCandidate (o : FO h p fs qf n g) (ol : LO h p fs ql l) (hp : ¬ p = ql) (hq : ¬ qf = ql) (hv : VK n (xM n g)) (ht : VT n (xM n g)) (hb9 : VB n (xM n g)) (hb : b < n) (hk : kBr (kx (xM n g) b) = true) : ∃ l', Call sc n_X10_fallCandidate [aD p, aI (nI b)] h = some (.inl (some (aI (enc (ftX (xM n g) n b)))), lset h ql l') := by
  have hn := o.2.2.2.2
  have k0 := (hv b hb).2
  have e0 := c_atK (sc := sc) o hv hb
  have T55 : ∀ y : Option Nat, y = none → ∃ l', Run sc n_X10_fallCandidate 55 [aD p, aI (nI b), aI (nI (b + 2))] none [] h = some (.inl (some (aI (enc y))), lset h ql l') := by
    intro y hy
    subst hy
    refine ⟨l, ?_⟩
    rw [e_X10_fallCandidate_55, ol.self]
    rfl
  simp only [c0_X10_fallCandidate, e_X10_fallCandidate_0, e_X10_fallCandidate_10, bI_t o.ok, e0, bO_some, bF_I, bF_D, bF_C, bC_v, pk_mul, nI_add, Option.toList, List.cons_append, List.nil_append, eqI (show kx (xM n g) b < 2 ^ 31 by omega) (show 10 < 2 ^ 31 by omega)]
  unfold ftX
  rcases br_10 k0 hk with ⟨hc, h10⟩ | ⟨hc, h10⟩
  · rw [if_pos h10]
    exact T55 _ (if_pos (fun z => by rw [hc] at z; cases z.1))
  · rw [if_neg h10]
    have e2 := c_isEntry (sc := sc) o (nI (b + 2))
    rw [has_nI (by omega) (by omega)] at e2
    simp only [e_X10_fallCandidate_15, e_X10_fallCandidate_20, bI_t o.ok, e2, bO_some, bF_I, bF_D, bF_C, bC_v, pk_mul, nI_add, Option.toList, List.cons_append, List.nil_append]
    by_cases h1 : b + 2 < n
    · have k1 := (hv _ h1).2
      have e3 := c_isPlain (sc := sc) o hv h1
      have e4 := c_atK (sc := sc) o hv h1
      have e5 := c_X10_targeted (sc := sc) o hv (nI (b + 2))
      have h3 := nI_le0 (show toX n (xM n g) (nI (b + 2)) < 2 ^ 31 by have := to_le n (xM n g) (nI (b + 2)); omega)
      rw [if_neg (show ¬ ¬ (kCo (kx (xM n g) b) = true ∧ b + 2 < n) from fun z => z ⟨hc, h1⟩)]
      simp only [h1, decide_true, e_X10_fallCandidate_23, e_X10_fallCandidate_28, bI_t o.ok, e3, bO_some, bF_I, bF_D, bF_C, bC_v, pk_mul, nI_add, Option.toList, List.cons_append, List.nil_append, zI_0, if_true, if_false, eq_self, not_true_eq_false, not_false_eq_true, reduceCtorEq]
      by_cases h2 : cfK (kx (xM n g) (b + 2)) = true
      · simp only [h2, e_X10_fallCandidate_31, e_X10_fallCandidate_37, e_X10_fallCandidate_44, bI_t o.ok, e4, c_isIn, in67 k1, bO_some, bF_I, bF_D, bF_C, bC_v, pk_mul, nI_add, Option.toList, List.cons_append, List.nil_append, zI_0, if_true, if_false, eq_self, not_true_eq_false, not_false_eq_true, reduceCtorEq, true_and]
        by_cases h6 : kx (xM n g) (b + 2) = 6
        · rw [decide_eq_true h6, Bool.true_or, if_pos (by decide)]
          exact T55 _ (if_pos (fun z => z.1 h6))
        · by_cases h7 : kx (xM n g) (b + 2) = 7
          · rw [decide_eq_true h7, Bool.or_true, if_pos (by decide)]
            exact T55 _ (if_pos (fun z => z.2.1 h7))
          · rw [decide_eq_false h6, decide_eq_false h7, Bool.or_false, if_neg (by decide)]
            simp only [e_X10_fallCandidate_47, e_X10_fallCandidate_52, bI_t o.ok, e5, bO_some, bF_I, bF_D, bF_C, bC_v, pk_mul, nI_add, Option.toList, List.cons_append, List.nil_append, h3]
            by_cases h8 : 0 < toX n (xM n g) (nI (b + 2))
            · rw [if_neg (fun z => z h8)]
              exact T55 _ (if_pos (fun z => z.2.2 h8))
            · obtain ⟨t1, t2⟩ := lt_at ht hb hk (by omega)
              obtain ⟨l', q1, q2⟩ := c_findLives (sc := sc) o ol hp hq hv ht hb9
              have o1 := o.lset (l := l') hp hq
              have ol1 := ol.to (l' := l') hp
              have e6 := c_X10_writes (sc := sc) o1 hv h1
              have e7 := c_at (sc := sc) o1 hb (show 3 < 5 by omega)
              rw [t1] at e7
              have e8 := ol1.ld (sc := sc) (show ltX (xM n g) b < 62 by omega)
              rw [q2 _ t2] at e8
              refine ⟨l', ?_⟩
              rw [if_pos h8, if_neg (show ¬ ¬ (¬ kx (xM n g) (b + 2) = 6 ∧ ¬ kx (xM n g) (b + 2) = 7 ∧ ¬ 0 < toX n (xM n g) (nI (b + 2))) from fun z => z ⟨h6, h7, h8⟩)]
              simp only [e_X10_fallCandidate_57, e_X10_fallCandidate_61, e_X10_fallCandidate_66, e_X10_fallCandidate_70, e_X10_fallCandidate_76, e_X10_fallCandidate_77, bI_t o.ok, bI_t o1.ok, q1, e6, e7, e8, ol1.f, bO_some, bF_I, bF_D, bF_C, bC_v, pk_mul, nI_add, Option.toList, List.cons_append, List.nil_append]
              by_cases h9 : (wrX (xM n g) (b + 2) &&& lvAt (xM n g) n (ltX (xM n g) b)) = 0
              · simp only [h9, e_X10_fallCandidate_81, e_X10_fallCandidate_86, zI_0, if_true, if_false, eq_self, not_true_eq_false, not_false_eq_true]
                rfl
              · simp only [h9, e_X10_fallCandidate_85, e_X10_fallCandidate_86, zI_0, if_true, if_false, eq_self, not_true_eq_false, not_false_eq_true]
                rfl
      · have h2' := h2
        rw [Bool.not_eq_true] at h2'
        simp only [h2', zI_0, if_true, if_false, eq_self, not_true_eq_false, not_false_eq_true, reduceCtorEq]
        exact T55 _ (if_pos (fun z => by cases z.1))
    · simp only [h1, decide_false, zI_0, if_true, if_false, eq_self, not_true_eq_false, not_false_eq_true, reduceCtorEq]
      exact T55 _ (if_pos (fun z => z.2))
theorem c_candidateOf (o : FO h p fs qf n g) (ol : LO h p fs ql l) (hp : ¬ p = ql) (hq : ¬ qf = ql) (hv : VK n (xM n g)) (ht : VT n (xM n g)) (hb9 : VB n (xM n g)) (hb : b < n) (hk : kBr (kx (xM n g) b) = true) {way : Nat} (hw : way < 3) : ∃ l', Call sc n_X10_candidateOf [aD p, aI (nI b), aI (nI way)] h = some (.inl (some (aI (enc (fdX (xM n g) n b way)))), lset h ql l') := by
  have h3 : way = 0 ∨ way = 1 ∨ way = 2 := by omega
  rcases h3 with rfl | rfl | rfl
  · refine ⟨l, ?_⟩
    rw [ol.self, fd_0]
    simp only [c0_X10_candidateOf, e_X10_candidateOf_0, e_X10_candidateOf_4, e_X10_candidateOf_9, e_X10_candidateOf_30, bI_t o.ok, c_beforeCandidate o hv hb, show (nI 0 = 0) = True from eq_true (by decide), bO_some, bF_I, bF_D, bF_C, bC_v, pk_mul, nI_add, Option.toList, List.cons_append, List.nil_append, zI_0, if_true, if_false, eq_self, not_true_eq_false, not_false_eq_true]
  · refine ⟨l, ?_⟩
    rw [ol.self, fd_1]
    simp only [c0_X10_candidateOf, e_X10_candidateOf_0, e_X10_candidateOf_12, e_X10_candidateOf_17, e_X10_candidateOf_22, e_X10_candidateOf_30, bI_t o.ok, c_targetCandidate o hv ht hb hk, show ¬ nI 1 = 0 from by decide, bO_some, bF_I, bF_D, bF_C, bC_v, pk_mul, nI_add, Option.toList, List.cons_append, List.nil_append, zI_0, if_true, if_false, eq_self, not_true_eq_false, not_false_eq_true]
  · obtain ⟨l', q1⟩ := c_fallCandidate (sc := sc) o ol hp hq hv ht hb9 hb hk
    refine ⟨l', ?_⟩
    rw [fd_2]
    simp only [c0_X10_candidateOf, e_X10_candidateOf_0, e_X10_candidateOf_12, e_X10_candidateOf_25, e_X10_candidateOf_30, bI_t o.ok, q1, show ¬ nI 2 = 0 from by decide, show ¬ nI 2 = nI 1 from by decide, bO_some, bF_I, bF_D, bF_C, bC_v, pk_mul, nI_add, Option.toList, List.cons_append, List.nil_append, zI_0, if_true, if_false, eq_self, not_true_eq_false, not_false_eq_true]
end
