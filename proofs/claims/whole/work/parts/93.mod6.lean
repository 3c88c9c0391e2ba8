/-! PURE 34: the reference: what is reached -/
def MO (h : AH) (p : Nat) (fs : List AV) (qm : Nat) (s : Nat → Int32) : Prop := hget h p = some (oO 12 fs) ∧ fs[13]? = some (aD qm) ∧ hget h qm = some (oI 3 62 s)
def bset (h : AH) (qm : Nat) (s : Nat → Int32) : AH := hset h qm (oI 3 62 s)
section
variable {sc : SC} {h h' : AH} {p qf qm n i j k b w r : Nat} {fs : List AV} {g s s' : Nat → Int32} {x x1 x2 x3 lo hi : Int32} {S : Nat → Prop} {v2 v3 v4 v5 : AV}
theorem MO.f (o : MO h p fs qm s) : getF sc h (aD p) 12 13 = some (aD qm) := getF_D o.1 o.2.1
theorem MO.ld (o : MO h p fs qm s) (hj : j < 62) : ldI sc h (fun t => t == 2 || t == 3) (aD qm) (nI j) = some (s j) := ldI_D o.2.2 rfl hj (by omega)
theorem MO.to (o : MO h p fs qm s) (hp : ¬ p = qm) : MO (bset h qm s') p fs qm s' := ⟨(hget_ne hp).trans o.1, o.2.1, hget_set o.2.2⟩
theorem MO.st (o : MO h p fs qm s) (hp : ¬ p = qm) (c : Bool) (hj : j < 62) : stI (bset h qm s') (fun t => t == 2 || t == 3) qm (nI j) (zI c) = some (bset h qm (upd s' j (zI c))) := by
  rw [stI_D (o.to hp (s' := s')).2.2 rfl hj (by omega)]
  have h1 : narK 3 (zI c) = zI c := by cases c <;> rfl
  rw [h1]
  unfold bset
  rw [hset_hset]
theorem MO.self (o : MO h p fs qm s) : bset h qm s = h := hset_self o.2.2
theorem MO.fr (o : MO h p fs qm s) : Fr (fun y => y = qm) h (bset h qm s') := fr_set o.2.2 rfl
theorem FO.bset (o : FO h p fs qf n g) (hp : ¬ p = qm) (hq : ¬ qf = qm) : FO (bset h qm s) p fs qf n g := ⟨(hget_ne hp).trans o.1, o.2.1, (hget_ne hq).trans o.2.2.1, o.2.2.2⟩
theorem c_meet (o : MO h p fs qm s) (hp : ¬ p = qm) (hj : j < 62) : Call sc n_X10_meet [aD p, aI (nI j)] (bset h qm s') = some (.inl none, bset h qm (upd s' j (zI true))) := by
  have e1 := o.st (s' := s') hp true hj
  rw [show zI true = nI 1 from rfl] at e1 ⊢
  simp only [c0_X10_meet, e_X10_meet_0, e_X10_meet_4, e_X10_meet_7, (o.to (s' := s') hp).f, e1, bO_some, bF_I, bF_D, bF_C, bC_v, pk_mul, nI_add, Option.toList, List.cons_append, List.nil_append]
theorem l_fr_0 (o : MO h p fs qm s) (hp : ¬ p = qm) : ∀ d k, k + d = 62 → ∀ s' v2 v3, (∀ i, i < k → s' i = zI (Nat.beq i 0)) → ∃ s'', Run sc n_X10_findReached 2 [aD p, aI (nI k), v2, v3] none [] (bset h qm s') = Run sc n_X10_findReached 31 [aD p, aI (nI 0), v2, v3] none [] (bset h qm s'') ∧ (∀ i, i < 62 → s'' i = zI (Nat.beq i 0)) := by
  intro d
  induction d with
  | zero =>
    intro k hk s' v2 v3 hs
    have : k = 62 := by omega
    subst this
    refine ⟨s', ?_, hs⟩
    rw [e_X10_findReached_2, if_pos (by decide), e_X10_findReached_29]
  | succ d ih =>
    intro k hk s' v2 v3 hs
    have h1 : ¬ nI 61 < nI k := Int32.not_lt.mpr (nI_le (by omega) (by omega))
    obtain ⟨s'', q1, q2⟩ := ih (k + 1) (by omega) (upd s' k (zI (Nat.beq k 0))) v2 v3 (fun i hi => by
      rw [upd_eq]
      split
      · rename_i hh
        rw [hh]
      · exact hs i (by omega))
    refine ⟨s'', ?_, q2⟩
    rw [← q1, e_X10_findReached_2, if_neg h1]
    have e1 := fun c => o.st (s' := s') hp c (show k < 62 by omega)
    by_cases h0 : k = 0
    · subst h0
      have e2 := e1 true
      rw [show zI true = nI 1 from rfl] at e2
      simp only [e_X10_findReached_8, e_X10_findReached_12, e_X10_findReached_17, e_X10_findReached_22, e_X10_findReached_23, (o.to (s' := s') hp).f, show (nI 0 = 0) = True from eq_true (by decide), e2, bO_some, bF_I, bF_D, bF_C, bC_v, pk_mul, nI_add, Option.toList, List.cons_append, List.nil_append, zI_0, if_true, if_false, eq_self, not_true_eq_false, not_false_eq_true]
      rfl
    · have h2 : ¬ nI k = 0 := fun z => h0 (nI_inj (b := 0) (by omega) (by omega) z)
      have e2 := e1 false
      rw [show zI false = nI 0 from rfl] at e2
      simp only [e_X10_findReached_8, e_X10_findReached_12, e_X10_findReached_21, e_X10_findReached_22, e_X10_findReached_23, (o.to (s' := s') hp).f, h2, e2, beq_f h0, bO_some, bF_I, bF_D, bF_C, bC_v, pk_mul, nI_add, Option.toList, List.cons_append, List.nil_append, zI_0, if_true, if_false, eq_self, not_true_eq_false, not_false_eq_true]
      rfl
theorem l_fr_in (om : MO h p fs qm s) (o : FO h p fs qf n g) (hp : ¬ p = qm) (hq : ¬ qf = qm) (hv : VK n (xM n g)) (ht : VT n (xM n g)) (hb9 : VB n (xM n g)) : ∀ d k, k + d = n → ∀ s' (b : Nat → Bool) v3, (∀ i, i ≤ n → s' i = zI (b i)) → ∃ s'' v3', Run sc n_X10_findReached 41 [aD p, aI x1, aI (nI k), v3] none [] (bset h qm s') = Run sc n_X10_findReached 129 [aD p, aI x1, aI (nI n), v3'] none [] (bset h qm s'') ∧ (∀ i, i ≤ n → s'' i = zI (rrB (xM n g) d k b i)) := by
  have hn := o.2.2.2.2
  intro d
  induction d with
  | zero =>
    intro k hk s' b v3 hs
    have hkn : k = n := by omega
    subst hkn
    have o1 := o.bset (s := s') hp hq
    refine ⟨s', v3, ?_, hs⟩
    simp only [e_X10_findReached_41, e_X10_findReached_46, bI_t o1.ok, c_entryMany o1, bO_some, bF_I, bF_D, bF_C, bC_v, pk_mul, nI_add, Option.toList, List.cons_append, List.nil_append, nI_le (Nat.le_refl k) (show k < 2 ^ 31 by omega), if_true]
  | succ d ih =>
    intro k hk s' b v3 hs
    have hkn : k < n := by omega
    have k1 := (hv k hkn).2
    have o1 := fun s' => o.bset (s := s') hp hq
    have om1 := fun s' => om.to (s' := s') hp
    have ok := fun s' => bI_t ((o1 s').ok (sc := sc))
    have fm := fun s' => (om1 s').f (sc := sc)
    have em := fun s' => c_entryMany (sc := sc) (o1 s')
    have h1 : ¬ nI n ≤ nI k := nI_ge (by omega) (by omega)
    have e0 := fun s' => c_atK (sc := sc) (o1 s') hv hkn
    have e3 := fun s' => c_at (sc := sc) (o1 s') hkn (show 3 < 5 by omega)
    have el := (om1 s').ld (sc := sc) (show k < 62 by omega)
    rw [hs k (by omega)] at el
    have fin : ∀ (s2 : Nat → Int32) v3, (∀ i, i ≤ n → s2 i = zI (rcB (xM n g) k b i)) → ∃ s'' v3', Run sc n_X10_findReached 123 [aD p, aI x1, aI (nI k), aI v3] none [] (bset h qm s2) = Run sc n_X10_findReached 129 [aD p, aI x1, aI (nI n), v3'] none [] (bset h qm s'') ∧ (∀ i, i ≤ n → s'' i = zI (rrB (xM n g) (d + 1) k b i)) := by
      intro s2 v3 h2
      obtain ⟨s'', v3', q1, q2⟩ := ih (k + 1) (by omega) s2 (rcB (xM n g) k b) (aI v3) h2
      refine ⟨s'', v3', ?_, q2⟩
      rw [e_X10_findReached_123, nI_add]
      exact q1
    rw [e_X10_findReached_41]
    simp only [e_X10_findReached_46, e_X10_findReached_49, e_X10_findReached_55, e_X10_findReached_60, e_X10_findReached_62, ok, em, e0, fm, el, h1, if_false, bO_some, bF_I, bF_D, bF_C, bC_v, pk_mul, nI_add, Option.toList, List.cons_append, List.nil_append]
    by_cases hbk : b k = true
    · simp only [hbk, e_X10_findReached_65, e_X10_findReached_69, c_isBranch k1, bO_some, bF_I, bF_D, bF_C, bC_v, pk_mul, nI_add, Option.toList, List.cons_append, List.nil_append, zI_0, if_true, if_false, eq_self, not_true_eq_false, not_false_eq_true, reduceCtorEq]
      by_cases hb : kBr (kx (xM n g) k) = true
      · obtain ⟨t1, t2⟩ := lt_at ht hkn hb (by omega)
        have hk2 := hb9 k hkn hb
        simp only [t1] at e3
        have ub := updB hs (ltX (xM n g) k)
        have m1 := c_meet (sc := sc) (s' := s') om hp (show ltX (xM n g) k < 62 by omega)
        have el2 := (om1 (upd s' (ltX (xM n g) k) (zI true))).ld (sc := sc) (show k < 62 by omega)
        rw [ub k (by omega), hbk, Bool.true_or] at el2
        simp only [hb, e_X10_findReached_72, e_X10_findReached_79, e_X10_findReached_82, e_X10_findReached_86, e_X10_findReached_88, ok, e3, m1, fm, el2, bO_some, bF_I, bF_D, bF_C, bC_v, pk_mul, nI_add, Option.toList, List.cons_append, List.nil_append, zI_0, if_true, if_false, eq_self, not_true_eq_false, not_false_eq_true, reduceCtorEq]
        rcases br_10 k1 hb with ⟨hc, h10⟩ | ⟨hc, h10⟩
        · rw [e_X10_findReached_91, if_pos (by rw [h10])]
          refine fin _ _ ?_
          intro i hi
          rw [ub i hi]
          unfold rcB nxB
          rw [hb, hc, hbk]
          simp only [Bool.true_and, Bool.not_true, Bool.false_and, Bool.or_false]
        · have m2 := c_meet (sc := sc) (s' := upd s' (ltX (xM n g) k) (zI true)) om hp (show k + 2 < 62 by omega)
          have n11 : ¬ kx (xM n g) k = 11 := by
            intro z
            rw [z] at hb
            exact absurd hb (by decide)
          simp only [e_X10_findReached_91, e_X10_findReached_97, e_X10_findReached_103, e_X10_findReached_108, e_X10_findReached_111, e_X10_findReached_120, eqI (show kx (xM n g) k < 2 ^ 31 by omega) (show 10 < 2 ^ 31 by omega), eqI (show kx (xM n g) k < 2 ^ 31 by omega) (show 11 < 2 ^ 31 by omega), h10, n11, c_isBranch k1, hb, ok, m2, bO_some, bF_I, bF_D, bF_C, bC_v, pk_mul, nI_add, Option.toList, List.cons_append, List.nil_append, zI_0, if_true, if_false, eq_self, not_true_eq_false, not_false_eq_true, reduceCtorEq]
          refine fin _ _ ?_
          intro i hi
          rw [updB ub (k + 2) i hi]
          unfold rcB nxB
          rw [hb, hc, hbk, Bool.or_assoc]
          simp only [Bool.true_and, Bool.not_true, Bool.false_and, Bool.or_false]
      · rw [Bool.not_eq_true] at hb
        have hc : kCo (kx (xM n g) k) = false := by
          cases h7 : kCo (kx (xM n g) k)
          · rfl
          · rw [kCo_kBr h7] at hb
            cases hb
        have n10 : ¬ kx (xM n g) k = 10 := by
          intro z
          rw [z] at hb
          exact absurd hb (by decide)
        simp only [hb, e_X10_findReached_82, e_X10_findReached_86, e_X10_findReached_88, e_X10_findReached_91, fm, el, hbk, eqI (show kx (xM n g) k < 2 ^ 31 by omega) (show 10 < 2 ^ 31 by omega), n10, bO_some, bF_I, bF_D, bF_C, bC_v, pk_mul, nI_add, Option.toList, List.cons_append, List.nil_append, zI_0, if_true, if_false, eq_self, not_true_eq_false, not_false_eq_true, reduceCtorEq]
        by_cases h11 : kx (xM n g) k = 11
        · rw [e_X10_findReached_97, if_pos (by rw [h11])]
          refine fin _ _ ?_
          intro i hi
          rw [hs i hi]
          unfold rcB nxB
          rw [hb, hc, h11]
          simp
        · have m2 := c_meet (sc := sc) (s' := s') om hp (show k + 1 < 62 by omega)
          simp only [e_X10_findReached_97, e_X10_findReached_103, e_X10_findReached_108, e_X10_findReached_117, e_X10_findReached_120, eqI (show kx (xM n g) k < 2 ^ 31 by omega) (show 11 < 2 ^ 31 by omega), h11, c_isBranch k1, hb, ok, m2, bO_some, bF_I, bF_D, bF_C, bC_v, pk_mul, nI_add, Option.toList, List.cons_append, List.nil_append, zI_0, if_true, if_false, eq_self, not_true_eq_false, not_false_eq_true]
          refine fin _ _ ?_
          intro i hi
          rw [updB hs (k + 1) i hi]
          unfold rcB nxB
          rw [hb, hc, hbk, beq_f h11]
          simp only [Bool.true_and, Bool.not_false, Bool.false_and, Bool.false_or]
    · rw [Bool.not_eq_true] at hbk
      simp only [hbk, e_X10_findReached_82, e_X10_findReached_86, e_X10_findReached_88, fm, el, bO_some, bF_I, bF_D, bF_C, bC_v, pk_mul, nI_add, Option.toList, List.cons_append, List.nil_append, zI_0, if_true, if_false, eq_self, not_true_eq_false, not_false_eq_true]
      refine fin _ _ ?_
      intro i hi
      rw [hs i hi]
      unfold rcB
      rw [hbk]
      simp
theorem l_fr_out (om : MO h p fs qm s) (o : FO h p fs qf n g) (hp : ¬ p = qm) (hq : ¬ qf = qm) (hv : VK n (xM n g)) (ht : VT n (xM n g)) (hb9 : VB n (xM n g)) : ∀ d r, r + d = n → ∀ s' v2 v3, (∀ i, i ≤ n → s' i = zI (rsB (xM n g) n r i)) → ∃ s'', Run sc n_X10_findReached 31 [aD p, aI (nI r), v2, v3] none [] (bset h qm s') = some (.inl none, bset h qm s'') ∧ (∀ i, i ≤ n → s'' i = zI (rsB (xM n g) n n i)) := by
  have hn := o.2.2.2.2
  intro d
  induction d with
  | zero =>
    intro r hr s' v2 v3 hs
    have : r = n := by omega
    subst this
    have o1 := o.bset (s := s') hp hq
    refine ⟨s', ?_, hs⟩
    simp only [e_X10_findReached_31, e_X10_findReached_36, e_X10_findReached_135, bI_t o1.ok, c_entryMany o1, bO_some, bF_I, bF_D, bF_C, bC_v, pk_mul, nI_add, Option.toList, List.cons_append, List.nil_append, nI_le (Nat.le_refl r) (show r < 2 ^ 31 by omega), if_true]
  | succ d ih =>
    intro r hr s' v2 v3 hs
    have o1 := o.bset (s := s') hp hq
    have h1 : ¬ nI n ≤ nI r := nI_ge (by omega) (by omega)
    obtain ⟨s2, v3', q1, q2⟩ := l_fr_in (sc := sc) (x1 := nI r) om o hp hq hv ht hb9 n 0 (by omega) s' _ v3 hs
    obtain ⟨s3, q3, q4⟩ := ih (r + 1) (by omega) s2 (aI (nI n)) v3' q2
    refine ⟨s3, ?_, q4⟩
    rw [e_X10_findReached_31]
    simp only [e_X10_findReached_36, e_X10_findReached_39, bI_t o1.ok, c_entryMany o1, h1, if_false, bO_some, bF_I, bF_D, bF_C, bC_v, pk_mul, nI_add, Option.toList, List.cons_append, List.nil_append]
    rw [q1, e_X10_findReached_129, nI_add]
    exact q3
theorem c_findReached (om : MO h p fs qm s) (o : FO h p fs qf n g) (hp : ¬ p = qm) (hq : ¬ qf = qm) (hv : VK n (xM n g)) (ht : VT n (xM n g)) (hb9 : VB n (xM n g)) : ∃ s', Call sc n_X10_findReached [aD p] h = some (.inl none, bset h qm s') ∧ ∀ i, i ≤ n → s' i = zI (rsB (xM n g) n n i) := by
  have hn := o.2.2.2.2
  obtain ⟨s1, h1, h2⟩ := l_fr_0 (sc := sc) om hp 62 0 rfl s aU aU (fun i hi => by omega)
  rw [om.self] at h1
  obtain ⟨s2, h3, h4⟩ := l_fr_out (sc := sc) om o hp hq hv ht hb9 n 0 (by omega) s1 aU aU (fun i hi => h2 i (by omega))
  refine ⟨s2, ?_, h4⟩
  rw [c0_X10_findReached, e_X10_findReached_0]
  exact h1.trans h3
end
