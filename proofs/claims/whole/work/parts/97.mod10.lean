/-! PURE 38: the reference fills all slots: the turns at a branch -/
def CM (h : AH) (p : Nat) (fs : List AV) (qf ql n : Nat) (X : Nat → Nat → Int32) : Prop := ∃ g l, FO h p fs qf n g ∧ LO h p fs ql l ∧ xM n g = X
section
variable {sc : SC} {h h' : AH} {p qf ql n i b : Nat} {fs : List AV} {x4 : Int32} {w1 w2 : Nat} {v7 v8 : AV}
theorem l_mturns (hw1 : w1 < 3) (hw2 : w2 < 3) (hne : ¬ w1 = w2) (hp : ¬ p = qf) (hpl : ¬ p = ql) (hql : ¬ qf = ql) : ∀ d i, i + d = 3 → ∀ h (st : FS) v7 v8, CM h p fs qf ql st.1 st.2.1 → BS st → ∃ h' v6 v7' v8', Run sc n_X10_fillAll 72 [aD p, aI (nI w1), aI (nI w2), aI (nI st.2.2.2), aI x4, aI (nI st.2.2.1), aI (nI i), v7, v8] none [] h = Run sc n_X10_fillAll 153 [aD p, aI (nI w1), aI (nI w2), aI (nI (trX w1 w2 (3 - w1 - w2) d i st).2.2.2), aI x4, aI (nI (trX w1 w2 (3 - w1 - w2) d i st).2.2.1), aI v6, v7', v8'] none [] h' ∧ CM h' p fs qf ql (trX w1 w2 (3 - w1 - w2) d i st).1 (trX w1 w2 (3 - w1 - w2) d i st).2.1 ∧ Fr (fun y => y = qf ∨ y = ql) h h' := by
  intro d
  induction d with
  | zero =>
    intro i hi h st v7 v8 hc hs
    refine ⟨h, nI i, v7, v8, ?_, hc, Fr.rfl⟩
    rw [e_X10_fillAll_72, if_pos (nI_le (by omega) (by omega))]
    rfl
  | succ d ih =>
    intro i hi h st v7 v8 hc hs
    obtain ⟨n, X, b, c⟩ := st
    obtain ⟨g, l, o, ol, hx⟩ := hc
    obtain ⟨hw, hb, hk, hn⟩ := hs
    simp only at o hx hw hb hk hn
    subst hx
    have h1 : ¬ nI 3 ≤ nI i := nI_ge (by omega) (by omega)
    have hb2 := hw.2.2.1 b hb hk
    have e1 := c_atK (sc := sc) o hw.1 hb2
    have kb2 := (hw.1 (b + 1) hb2).2
    simp only [e_X10_fillAll_72, e_X10_fillAll_78, e_X10_fillAll_87, h1, bI_t o.ok, e1, bO_some, bF_I, bF_D, bF_C, bC_v, pk_mul, nI_add, Option.toList, List.cons_append, List.nil_append, zI_0, if_true, if_false, eq_self, not_true_eq_false, not_false_eq_true]
    by_cases hnop : kx (xM n g) (b + 1) = 0
    · have hway : wy w1 w2 (3 - w1 - w2) i < 3 := by
        unfold wy
        split
        · exact hw1
        · split
          · exact hw2
          · omega
      have t114 : ∀ v7 v8, Run sc n_X10_fillAll 90 [aD p, aI (nI w1), aI (nI w2), aI (nI c), aI x4, aI (nI b), aI (nI i), v7, v8] none [] h = Run sc n_X10_fillAll 114 [aD p, aI (nI w1), aI (nI w2), aI (nI c), aI x4, aI (nI b), aI (nI i), v7, v8] none [aI (nI (wy w1 w2 (3 - w1 - w2) i))] h := by
        intro v7 v8
        have h3 : i = 0 ∨ i = 1 ∨ i = 2 := by omega
        rcases h3 with rfl | rfl | rfl
        · simp only [e_X10_fillAll_90, e_X10_fillAll_95, show (nI 0 = 0) = True from eq_true (by decide), zI_0, if_true, if_false, eq_self, not_true_eq_false, not_false_eq_true]
          rfl
        · simp only [e_X10_fillAll_90, e_X10_fillAll_99, e_X10_fillAll_105, show ¬ nI 1 = 0 from by decide, zI_0, if_true, if_false, eq_self, not_true_eq_false, not_false_eq_true]
          rfl
        · simp only [e_X10_fillAll_90, e_X10_fillAll_99, e_X10_fillAll_109, show ¬ nI 2 = 0 from by decide, show ¬ nI 2 = nI 1 from by decide, zI_0, if_true, if_false, eq_self, not_true_eq_false, not_false_eq_true, pk_sub (show w1 ≤ 3 by omega), pk_sub (show w2 ≤ 3 - w1 by omega)]
          rfl
      obtain ⟨l', e2⟩ := c_candidateOf (sc := sc) o ol hpl hql hw.1 hw.2.1 hw.2.2.1 hb hk hway
      have o1 := o.lset (l := l') hpl hql
      have ol1 := ol.to (l' := l') hpl
      have fr1 : Fr (fun y => y = qf ∨ y = ql) h (lset h ql l') := ol.fr.mono (fun _ z => Or.inr z)
      simp only [hnop, show (nI 0 = 0) = True from eq_true (by decide), zI_0, if_true, if_false, eq_self, not_true_eq_false, not_false_eq_true, t114, e_X10_fillAll_114, e_X10_fillAll_124, bI_t o.ok, e2, bO_some, bF_I, bF_D, bF_C, bC_v, pk_mul, nI_add, Option.toList, List.cons_append, List.nil_append]
      have htn : trX w1 w2 (3 - w1 - w2) (d + 1) i (n, xM n g, b, c) = trX w1 w2 (3 - w1 - w2) d (i + 1) (tnX (wy w1 w2 (3 - w1 - w2) i) (n, xM n g, b, c)) := rfl
      rw [htn]
      cases hf : fdX (xM n g) n b (wy w1 w2 (3 - w1 - w2) i) with
      | none =>
        have h4 : tnX (wy w1 w2 (3 - w1 - w2) i) (n, xM n g, b, c) = (n, xM n g, b, c) := by
          unfold tnX
          simp only [hnop, hf, if_true]
        obtain ⟨h', v6, v7', v8', q1, q2, q3⟩ := ih (i + 1) (by omega) (lset h ql l') (n, xM n g, b, c) (aI (nI (wy w1 w2 (3 - w1 - w2) i))) (aI (enc none)) ⟨g, l', o1, ol1, rfl⟩ ⟨hw, hb, hk, hn⟩
        refine ⟨h', v6, v7', v8', ?_, ?_, fr1.trans q3⟩
        · rw [h4, ← q1]
          simp only [enc, e_X10_fillAll_147, bO_some, bF_I, bF_D, bF_C, bC_v, pk_mul, nI_add, Option.toList, List.cons_append, List.nil_append, zI_0, if_true, if_false, eq_self, not_true_eq_false, not_false_eq_true]
        · rw [h4]
          exact q2
      | some e =>
        have h5 := fd_ok hb hw hk hf
        have h6 := mv_ok hw (by omega) hb hk h5.1 h5.2.1 h5.2.2.1 h5.2.2.2 (fun z1 z2 => fd_fall z1 z2 hf)
        obtain ⟨g', e3, e4, e5⟩ := c_doFill (sc := sc) o1 hp hw hb hk h5.1 h5.2.1 hway
        have h4 : tnX (wy w1 w2 (3 - w1 - w2) i) (n, xM n g, b, c) = (mvN n (wy w1 w2 (3 - w1 - w2) i), mvX (xM n g) n b (wy w1 w2 (3 - w1 - w2) i) e, mvB b (wy w1 w2 (3 - w1 - w2) i), c + 1) := by
          unfold tnX
          simp only [hnop, hf, if_true]
        have hN : mvN n (wy w1 w2 (3 - w1 - w2) i) ≤ 60 := by
          unfold mvN
          split <;> omega
        have o2 := o1.to (m := mvN n (wy w1 w2 (3 - w1 - w2) i)) hp e4 hN
        have ol2 : LO (gset (lset h ql l') qf g') p fs ql l' := ⟨(hget_ne hp).trans ol1.1, ol1.2.1, (hget_ne (fun z => hql z.symm)).trans ol1.2.2⟩
        have fr2 : Fr (fun y => y = qf ∨ y = ql) (lset h ql l') (gset (lset h ql l') qf g') := o1.fr.mono (fun _ z => Or.inl z)
        have hbq : (if wy w1 w2 (3 - w1 - w2) i = 0 then nI b - nI 1 else nI b) = nI (mvB b (wy w1 w2 (3 - w1 - w2) i)) := by
          unfold mvB
          split
          · rename_i h7
            have := h5.2.2.2 h7
            rw [pk_sub (by omega)]
          · rfl
        rw [hbq] at e3
        obtain ⟨h', v6, v7', v8', q1, q2, q3⟩ := ih (i + 1) (by omega) (gset (lset h ql l') qf g') (mvN n (wy w1 w2 (3 - w1 - w2) i), mvX (xM n g) n b (wy w1 w2 (3 - w1 - w2) i) e, mvB b (wy w1 w2 (3 - w1 - w2) i), c + 1) (aI (nI (wy w1 w2 (3 - w1 - w2) i))) (aI (nI e)) ⟨g', l', o2, ol2, e5⟩ ⟨h6.1, h6.2.2.1, h6.2.1, hN⟩
        refine ⟨h', v6, v7', v8', ?_, ?_, fr1.trans (fr2.trans q3)⟩
        · rw [h4, ← q1]
          simp only [enc, enc_ne (show e < 2 ^ 31 by omega), e_X10_fillAll_132, e_X10_fillAll_142, e_X10_fillAll_147, bI_t o1.ok, e3, bO_some, bF_I, bF_D, bF_C, bC_v, pk_mul, nI_add, Option.toList, List.cons_append, List.nil_append, zI_0, if_true, if_false, eq_self, not_true_eq_false, not_false_eq_true]
        · rw [h4]
          exact q2
    · have hne0 : ¬ nI (kx (xM n g) (b + 1)) = 0 := fun z => hnop (nI_inj (b := 0) (by omega) (by omega) z)
      refine ⟨h, nI i, v7, v8, ?_, ?_, Fr.rfl⟩
      · rw [tr_stay (st := (n, xM n g, b, c)) hnop]
        simp only [hne0, zI_0, if_true, if_false, eq_self, not_true_eq_false, not_false_eq_true]
      · rw [tr_stay (st := (n, xM n g, b, c)) hnop]
        exact ⟨g, l, o, ol, rfl⟩
end
