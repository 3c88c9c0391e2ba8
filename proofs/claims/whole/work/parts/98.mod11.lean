/-! PURE 39: the reference fills all slots -/
section
variable {sc : SC} {h h' : AH} {p qf ql n i b : Nat} {fs : List AV} {x4 : Int32} {w1 w2 : Nat} {v7 v8 : AV}
theorem l_mfillAll (hw1 : w1 < 3) (hw2 : w2 < 3) (hne : ¬ w1 = w2) (hp : ¬ p = qf) (hpl : ¬ p = ql) (hql : ¬ qf = ql) : ∀ d h (st : FS) v5 v6 v7 v8, CM h p fs qf ql st.1 st.2.1 → WF st.1 st.2.1 → st.1 ≤ 60 → st.2.2.1 < 2 ^ 30 → st.1 ≤ st.2.2.1 + d → ∃ h', Run sc n_X10_fillAll 43 [aD p, aI (nI w1), aI (nI w2), aI (nI st.2.2.2), aI (nI st.2.2.1), v5, v6, v7, v8] none [] h = some (.inl (some (aI (nI (faX w1 w2 (3 - w1 - w2) d st).2.2.2))), h') ∧ CM h' p fs qf ql (faX w1 w2 (3 - w1 - w2) d st).1 (faX w1 w2 (3 - w1 - w2) d st).2.1 ∧ Fr (fun y => y = qf ∨ y = ql) h h' := by
  intro d
  have TE : ∀ {h : AH} {n b c : Nat} {X : Nat → Nat → Int32} (v5 v6 v7 v8 : AV), CM h p fs qf ql n X → n ≤ b → b < 2 ^ 30 → Run sc n_X10_fillAll 43 [aD p, aI (nI w1), aI (nI w2), aI (nI c), aI (nI b), v5, v6, v7, v8] none [] h = some (.inl (some (aI (nI c))), h) := by
    intro h n b c X v5 v6 v7 v8 hc hnb hbb
    obtain ⟨g, l, o, ol, hx⟩ := hc
    have h2 : nI n ≤ nI b := nI_le (by omega) (by omega)
    simp only [e_X10_fillAll_43, e_X10_fillAll_49, e_X10_fillAll_165, bI_t o.ok, c_entryMany o, h2, bO_some, bF_I, bF_D, bF_C, bC_v, pk_mul, nI_add, Option.toList, List.cons_append, List.nil_append, zI_0, if_true, if_false, eq_self, not_true_eq_false, not_false_eq_true]
  induction d with
  | zero =>
    intro h st v5 v6 v7 v8 hc hs hn hbb hd
    exact ⟨h, TE v5 v6 v7 v8 hc hd hbb, hc, Fr.rfl⟩
  | succ d ih =>
    intro h st v5 v6 v7 v8 hc hs hn hbb hd
    obtain ⟨n, X, b, c⟩ := st
    simp only at hc hs hn hbb hd
    have hc0 := hc
    obtain ⟨g, l, o, ol, hx⟩ := hc
    subst hx
    by_cases hb : b < n
    · have h2 : ¬ nI n ≤ nI b := nI_ge hb (by omega)
      have kb := (hs.1 b hb).2
      have e0 := c_atK (sc := sc) o hs.1 hb
      by_cases hk : kBr (kx (xM n g) b) = true
      · obtain ⟨h', x7, v8', v9', q1, q2, q3⟩ := l_mturns (sc := sc) (x4 := nI b) hw1 hw2 hne hp hpl hql 3 0 rfl h (n, xM n g, b, c) v7 v8 hc0 ⟨hs, hb, hk, hn⟩
        obtain ⟨⟨r1, r2, r3, r4⟩, r5⟩ := tr_ok (w1 := w1) (w2 := w2) (w3 := 3 - w1 - w2) 3 0 (n, xM n g, b, c) ⟨hs, hb, hk, hn⟩
        have hfa : faX w1 w2 (3 - w1 - w2) (d + 1) (n, xM n g, b, c) = faX w1 w2 (3 - w1 - w2) d ((trX w1 w2 (3 - w1 - w2) 3 0 (n, xM n g, b, c)).1, (trX w1 w2 (3 - w1 - w2) 3 0 (n, xM n g, b, c)).2.1, (trX w1 w2 (3 - w1 - w2) 3 0 (n, xM n g, b, c)).2.2.1 + 2, (trX w1 w2 (3 - w1 - w2) 3 0 (n, xM n g, b, c)).2.2.2) := by
          show (if b < n then (if kBr (kx (xM n g) b) = true then _ else _) else _) = _
          rw [if_pos hb, if_pos hk]
        rw [hfa]
        generalize trX w1 w2 (3 - w1 - w2) 3 0 (n, xM n g, b, c) = st' at *
        obtain ⟨n', X', b', c'⟩ := st'
        simp only at q1 q2 r1 r2 r3 r4 r5
        obtain ⟨h'', s1, s2, s5⟩ := ih h' (n', X', b' + 2, c') (aI (nI b')) (aI x7) v8' v9' q2 r1 r4 (by show b' + 2 < 2 ^ 30; omega) (by show n' ≤ b' + 2 + d; omega)
        refine ⟨h'', ?_, s2, q3.trans s5⟩
        rw [← s1]
        rw [e_X10_fillAll_43]
        simp only [e_X10_fillAll_49, e_X10_fillAll_52, e_X10_fillAll_59, e_X10_fillAll_62, e_X10_fillAll_65, bI_t o.ok, c_entryMany o, e0, c_isBranch kb, hk, h2, bO_some, bF_I, bF_D, bF_C, bC_v, pk_mul, nI_add, Option.toList, List.cons_append, List.nil_append, zI_0, if_true, if_false, eq_self, not_true_eq_false, not_false_eq_true, reduceCtorEq]
        rw [q1, e_X10_fillAll_153, e_X10_fillAll_159, nI_add, nI_add]
      · have hk' := hk
        rw [Bool.not_eq_true] at hk'
        have hfa : faX w1 w2 (3 - w1 - w2) (d + 1) (n, xM n g, b, c) = faX w1 w2 (3 - w1 - w2) d (n, xM n g, b + 1, c) := by
          show (if b < n then (if kBr (kx (xM n g) b) = true then _ else _) else _) = _
          rw [if_pos hb, if_neg hk]
        rw [hfa]
        obtain ⟨h'', s1, s2, s5⟩ := ih h (n, xM n g, b + 1, c) v5 v6 v7 v8 hc0 hs hn (by show b + 1 < 2 ^ 30; omega) (by show n ≤ b + 1 + d; omega)
        refine ⟨h'', ?_, s2, s5⟩
        rw [← s1, e_X10_fillAll_43]
        simp only [e_X10_fillAll_49, e_X10_fillAll_52, e_X10_fillAll_59, e_X10_fillAll_62, e_X10_fillAll_159, bI_t o.ok, c_entryMany o, e0, c_isBranch kb, hk', h2, bO_some, bF_I, bF_D, bF_C, bC_v, pk_mul, nI_add, Option.toList, List.cons_append, List.nil_append, zI_0, if_true, if_false, eq_self, not_true_eq_false, not_false_eq_true, reduceCtorEq]
    · have hfa : faX w1 w2 (3 - w1 - w2) (d + 1) (n, xM n g, b, c) = (n, xM n g, b, c) := by
        show (if b < n then (if kBr (kx (xM n g) b) = true then _ else _) else _) = _
        rw [if_neg hb]
      rw [hfa]
      exact ⟨h, TE v5 v6 v7 v8 hc0 (show n ≤ b by omega) hbb, hc0, Fr.rfl⟩
end
