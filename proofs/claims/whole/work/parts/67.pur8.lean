/-! PURE 8: the class's flow: liveness, the loops -/
theorem dI_s (j : Nat) : nI (j + 1) - nI 1 = nI j := by
  rw [pk_sub (by omega)]
  rfl
theorem dI_n (x : Int32) : x + (-1) = x - nI 1 := by
  show x + (-1) = x - 1
  exact (Int32.sub_eq_add_neg _ _).symm
section
variable {sc : SC} {h : AH} {p q N n j k : Nat} {f l r w s l' r' w' : Nat → Int32} {x x1 x3 : Int32} {v4 v5 : AV}
theorem l_X2_lb_in (g : FL h p q l r w s) (gp : PG h q N n f) (hd : q + 1 < p) (hv : VK n (xC n f)) (ht : VT n (xC n f)) (hb9 : VB n (xC n f)) (hr : ∀ i, i < n → r' i = rdX (xC n f) i) (hw : ∀ i, i < n → w' i = wrX (xC n f) i) : ∀ j, j ≤ n → ∀ l' b v5, ∃ v6, Run sc n_X2_liveBefore 95 [aD p, aI x1, aI (zI b), aI x3, aI (nI j - nI 1), v5] none [] (fset h p l' r' w') = Run sc n_X2_liveBefore 161 [aD p, aI x1, aI (zI (b || grX (xC n f) j l')), aI x3, aI (nI 0 - nI 1), v6] none [] (fset h p (lrX (xC n f) j l') r' w') := by
  have hn := gp.n60
  intro j
  induction j with
  | zero =>
    intro _ l' b v5
    refine ⟨v5, ?_⟩
    rw [e_X2_liveBefore_95, if_pos (by decide)]
    simp only [grX, lrX, Bool.or_false]
  | succ j ih =>
    intro hj l' b v5
    have g1 := g.to (l' := l') (r' := r') (w' := w')
    have gp1 := gp.fl (l := l') (r := r') (w := w') hd
    obtain ⟨v6, hv6⟩ := ih (by omega) (upd l' j (lvX (xC n f) l' j)) (b || !decide (lvX (xC n f) l' j = l' j)) (aI (lvX (xC n f) l' j))
    refine ⟨v6, ?_⟩
    rw [Bool.or_assoc] at hv6
    simp only [grX, lrX]
    rw [← hv6, dI_s]
    have e1 := c_X6_isSlot (sc := sc) gp1 hv (show j ≤ n by omega)
    have e2 := g.t1 (l' := l') (r' := r') (w' := w') (x := lvX (xC n f) l' j) (show j < 61 by omega)
    have e3 := g1.l1 (sc := sc) (show j < 61 by omega)
    have t122 : Run sc n_X2_liveBefore 122 [aD p, aI x1, aI (zI b), aI x3, aI (nI j), v5] none [aI (lvX (xC n f) l' j)] (fset h p l' r' w') = Run sc n_X2_liveBefore 95 [aD p, aI x1, aI (zI (b || !decide (lvX (xC n f) l' j = l' j))), aI x3, aI (nI j - nI 1), aI (lvX (xC n f) l' j)] none [] (fset h p (upd l' j (lvX (xC n f) l' j)) r' w') := by
      cases b
      · by_cases hh : lvX (xC n f) l' j = l' j
        · simp only [e_X2_liveBefore_122, e_X2_liveBefore_128, e_X2_liveBefore_134, e_X2_liveBefore_137, e_X2_liveBefore_144, e_X2_liveBefore_145, e_X2_liveBefore_150, e_X2_liveBefore_155, zI_0, if_true, if_false, eq_self, not_true_eq_false, not_false_eq_true, reduceCtorEq, g1.f1, bO_some, bF_I, bF_D, bF_C, bC_v, pk_mul, nI_add, Option.toList, List.cons_append, List.nil_append, e3, hh, decide_true, Bool.not_true, Bool.false_or, dI_n]
          rw [hh] at e2
          rw [e2]
          rfl
        · simp only [e_X2_liveBefore_122, e_X2_liveBefore_128, e_X2_liveBefore_134, e_X2_liveBefore_137, e_X2_liveBefore_140, e_X2_liveBefore_145, e_X2_liveBefore_150, e_X2_liveBefore_155, zI_0, if_true, if_false, eq_self, not_true_eq_false, not_false_eq_true, reduceCtorEq, g1.f1, bO_some, bF_I, bF_D, bF_C, bC_v, pk_mul, nI_add, Option.toList, List.cons_append, List.nil_append, e3, hh, decide_false, Bool.not_false, Bool.or_true, dI_n, e2]
          rfl
      · simp only [e_X2_liveBefore_122, e_X2_liveBefore_140, e_X2_liveBefore_145, e_X2_liveBefore_150, e_X2_liveBefore_155, zI_0, if_true, if_false, eq_self, not_true_eq_false, not_false_eq_true, reduceCtorEq, g1.f1, bO_some, bF_I, bF_D, bF_C, bC_v, pk_mul, nI_add, Option.toList, List.cons_append, List.nil_append, Bool.true_or, dI_n, e2]
        rfl
    rw [← t122, e_X2_liveBefore_95, if_neg (nI_pos (show j < 2 ^ 31 by omega))]
    by_cases hs : slX (xC n f) j = true
    · have hl : lvX (xC n f) l' j = 0 := by
        unfold lvX
        rw [if_pos hs]
      rw [hl]
      simp only [e_X2_liveBefore_100, e_X2_liveBefore_104, e_X2_liveBefore_109, e_X2_liveBefore_112, g1.f0, bI_t gp1.ok, e1, hs, bO_some, bF_I, bF_D, bF_C, bC_v, pk_mul, nI_add, Option.toList, List.cons_append, List.nil_append, zI_0, if_true, if_false, eq_self, not_true_eq_false, not_false_eq_true, reduceCtorEq]
      rfl
    · rw [Bool.not_eq_true] at hs
      have e4 := c_X2_liveFromFollowing (sc := sc) g1 gp1 hv ht hb9 hr hw (show j < n by omega) hs
      simp only [e_X2_liveBefore_100, e_X2_liveBefore_104, e_X2_liveBefore_109, e_X2_liveBefore_116, g1.f0, bI_t gp1.ok, bI_t g1.ok, e1, hs, e4, bO_some, bF_I, bF_D, bF_C, bC_v, pk_mul, nI_add, Option.toList, List.cons_append, List.nil_append, zI_0, if_true, if_false, eq_self, not_true_eq_false, not_false_eq_true, reduceCtorEq]
theorem l_X2_lb_out (g : FL h p q l r w s) (gp : PG h q N n f) (hd : q + 1 < p) (hv : VK n (xC n f)) (ht : VT n (xC n f)) (hb9 : VB n (xC n f)) (hr : ∀ i, i < n → r' i = rdX (xC n f) i) (hw : ∀ i, i < n → w' i = wrX (xC n f) i) {z : Nat → Int32} (hz : ∀ i, i ≤ n → z i = 0) {i : Nat} (hi : i ≤ n) : ∀ d k, k + d = n → ∀ v4 v5, Run sc n_X2_liveBefore 71 [aD p, aI (nI i), aI (nI 1), aI (nI k), v4, v5] none [] (fset h p (lnX (xC n f) n z k) r' w') = some (.inl (some (aI (lnX (xC n f) n z n i))), fset h p (lnX (xC n f) n z n) r' w') := by
  have hn := gp.n60
  have hvf := VF_of ht hb9 (show n < 2 ^ 31 by omega)
  intro d
  induction d with
  | zero =>
    intro k hk v4 v5
    have hkn : k = n := by omega
    subst hkn
    have hf := ln_fix hvf hz
    have hg := gr_b k _ hf
    obtain ⟨v6, h6⟩ := l_X2_lb_in (sc := sc) (x1 := nI i) (x3 := nI k) g gp hd hv ht hb9 hr hw k (Nat.le_refl k) (lnX (xC k f) k z k) false v5
    rw [hg, show lrX (xC k f) k (lnX (xC k f) k z k) = lnX (xC k f) k z k from hf] at h6
    have g1 := g.to (l' := lnX (xC k f) k z k) (r' := r') (w' := w')
    have gp1 := gp.fl (l := lnX (xC k f) k z k) (r := r') (w := w') hd
    simp only [e_X2_liveBefore_71, e_X2_liveBefore_75, e_X2_liveBefore_82, e_X2_liveBefore_88, e_X2_liveBefore_91, show ¬ nI 1 = 0 from by decide, if_false, show ¬ nI 480 < nI k from Int32.not_lt.mpr (nI_le (by omega) (by omega)), g1.f0, gp1.f1, bO_some, bF_I, bF_D, bF_C, bC_v, pk_mul, nI_add, Option.toList, List.cons_append, List.nil_append]
    rw [zI_f, h6]
    simp only [e_X2_liveBefore_161, e_X2_liveBefore_71, e_X2_liveBefore_167, e_X2_liveBefore_171, e_X2_liveBefore_173, Bool.false_or, zI_0, if_true, if_false, eq_self, not_true_eq_false, not_false_eq_true, g1.f1, g1.l1 (show i < 61 by omega), bO_some, bF_I, bF_D, bF_C, bC_v, pk_mul, nI_add, Option.toList, List.cons_append, List.nil_append]
  | succ d ih =>
    intro k hk v4 v5
    obtain ⟨v6, h6⟩ := l_X2_lb_in (sc := sc) (x1 := nI i) (x3 := nI k) g gp hd hv ht hb9 hr hw n (Nat.le_refl n) (lnX (xC n f) n z k) false v5
    have g1 := g.to (l' := lnX (xC n f) n z k) (r' := r') (w' := w')
    have g2 := g.to (l' := lnX (xC n f) n z n) (r' := r') (w' := w')
    have gp1 := gp.fl (l := lnX (xC n f) n z k) (r := r') (w := w') hd
    simp only [e_X2_liveBefore_71, e_X2_liveBefore_75, e_X2_liveBefore_82, e_X2_liveBefore_88, e_X2_liveBefore_91, show ¬ nI 1 = 0 from by decide, if_false, show ¬ nI 480 < nI k from Int32.not_lt.mpr (nI_le (by omega) (by omega)), g1.f0, gp1.f1, bO_some, bF_I, bF_D, bF_C, bC_v, pk_mul, nI_add, Option.toList, List.cons_append, List.nil_append]
    rw [zI_f, h6]
    by_cases hg : grX (xC n f) n (lnX (xC n f) n z k) = true
    · have h7 := ih (k + 1) (by omega) (aI (nI 0 - nI 1)) v6
      rw [hg, e_X2_liveBefore_161, nI_add]
      exact h7
    · rw [Bool.not_eq_true] at hg
      have h8 := ln_stay (gr_f n _ hg) (d + 1)
      rw [hk] at h8
      rw [hg, show lrX (xC n f) n (lnX (xC n f) n z k) = lnX (xC n f) n z k from gr_f n _ hg, ← h8]
      simp only [e_X2_liveBefore_161, e_X2_liveBefore_71, e_X2_liveBefore_167, e_X2_liveBefore_171, e_X2_liveBefore_173, Bool.false_or, zI_0, if_true, if_false, eq_self, not_true_eq_false, not_false_eq_true, g2.f1, g2.l1 (show i < 61 by omega), bO_some, bF_I, bF_D, bF_C, bC_v, pk_mul, nI_add, Option.toList, List.cons_append, List.nil_append]
theorem l_X2_lb_0 (g : FL h p q l r w s) (gp : PG h q N n f) (hd : q + 1 < p) (hv : VK n (xC n f)) (x1 : Int32) : ∀ d k, k + d = n → ∀ l' r' w', (∀ i, i < k → l' i = 0) → (∀ i, i < k → r' i = rdX (xC n f) i) → (∀ i, i < k → w' i = wrX (xC n f) i) → ∃ l'' r'' w'', Run sc n_X2_liveBefore 2 [aD p, aI x1, aI (nI k), aU, aU, aU] none [] (fset h p l' r' w') = Run sc n_X2_liveBefore 71 [aD p, aI x1, aI (nI 1), aI (nI 0), aU, aU] none [] (fset h p l'' r'' w'') ∧ (∀ i, i ≤ n → l'' i = 0) ∧ (∀ i, i < n → r'' i = rdX (xC n f) i) ∧ (∀ i, i < n → w'' i = wrX (xC n f) i) := by
  have hn := gp.n60
  intro d
  induction d with
  | zero =>
    intro k hk l' r' w' hl hr hw
    have hkn : k = n := by omega
    subst hkn
    have g1 := g.to (l' := l') (r' := r') (w' := w')
    have gp1 := gp.fl (l := l') (r := r') (w := w') hd
    refine ⟨upd l' k (nI 0), r', w', ?_, ?_, hr, hw⟩
    · simp only [e_X2_liveBefore_2, e_X2_liveBefore_7, e_X2_liveBefore_10, e_X2_liveBefore_54, e_X2_liveBefore_58, e_X2_liveBefore_62, e_X2_liveBefore_65, e_X2_liveBefore_67, g1.f0, g1.f1, gp1.f1, bO_some, bF_I, bF_D, bF_C, bC_v, pk_mul, nI_add, Option.toList, List.cons_append, List.nil_append, nI_le (Nat.le_refl k) (show k < 2 ^ 31 by omega), if_true, g.t1 (show k < 61 by omega)]
    · intro i hi
      rw [upd_eq]
      split
      · rfl
      · exact hl i (by omega)
  | succ d ih =>
    intro k hk l' r' w' hl hr hw
    have hkn : k < n := by omega
    have g1 := fun l' r' w' => g.to (l' := l') (r' := r') (w' := w')
    have gp1 := fun l' r' w' => gp.fl (l := l') (r := r') (w := w') hd
    have e1 := fun l' r' w' => c_X6_reads (sc := sc) (gp1 l' r' w') hv hkn
    have e2 := fun l' r' w' => c_X6_writes (sc := sc) (gp1 l' r' w') hv hkn
    have f0 := fun l' r' w' => (g1 l' r' w').f0 (sc := sc)
    have f1 := fun l' r' w' => (g1 l' r' w').f1 (sc := sc)
    have f2 := fun l' r' w' => (g1 l' r' w').f2 (sc := sc)
    have f3 := fun l' r' w' => (g1 l' r' w').f3 (sc := sc)
    have ok := fun l' r' w' => bI_t ((gp1 l' r' w').ok (sc := sc))
    have h1 : ¬ nI n ≤ nI k := nI_ge (by omega) (by omega)
    have h2 := ih (k + 1) (by omega) (upd l' k (nI 0)) (upd r' k (rdX (xC n f) k)) (upd w' k (wrX (xC n f) k)) (fun i hi => by
      rw [upd_eq]
      split
      · rfl
      · exact hl i (by omega)) (fun i hi => by
      rw [upd_eq]
      split
      · rename_i hh
        rw [hh]
      · exact hr i (by omega)) (fun i hi => by
      rw [upd_eq]
      split
      · rename_i hh
        rw [hh]
      · exact hw i (by omega))
    rw [e_X2_liveBefore_2]
    simp only [e_X2_liveBefore_7, e_X2_liveBefore_10, e_X2_liveBefore_13, e_X2_liveBefore_17, e_X2_liveBefore_22, e_X2_liveBefore_26, e_X2_liveBefore_27, e_X2_liveBefore_31, e_X2_liveBefore_36, e_X2_liveBefore_40, e_X2_liveBefore_41, e_X2_liveBefore_45, e_X2_liveBefore_48, f0, f1, f2, f3, (gp1 l' r' w').f1, e1, e2, ok, bO_some, bF_I, bF_D, bF_C, bC_v, pk_mul, nI_add, Option.toList, List.cons_append, List.nil_append, h1, if_false, g.t1 (show k < 61 by omega), g.t2 (show k < 60 by omega), g.t3 (show k < 60 by omega)]
    exact h2
theorem c_X2_liveBefore (g : FL h p q l r w s) (gp : PG h q N n f) (hd : q + 1 < p) (hv : VK n (xC n f)) (ht : VT n (xC n f)) (hb9 : VB n (xC n f)) {i : Nat} (hi : i ≤ n) : ∃ l' r' w', Call sc n_X2_liveBefore [aD p, aI (nI i)] h = some (.inl (some (aI (lvAt (xC n f) n i))), fset h p l' r' w') := by
  have hn := gp.n60
  have hvf := VF_of ht hb9 (show n < 2 ^ 31 by omega)
  obtain ⟨l1, r1, w1, h1, h2, h3, h4⟩ := l_X2_lb_0 (sc := sc) g gp hd hv (nI i) n 0 (by omega) l r w (fun i hi => by omega) (fun i hi => by omega) (fun i hi => by omega)
  rw [g.self] at h1
  have h5 := l_X2_lb_out (sc := sc) g gp hd hv ht hb9 h3 h4 h2 hi n 0 (by omega) aU aU
  refine ⟨lnX (xC n f) n l1 n, r1, w1, ?_⟩
  simp only [c0_X2_liveBefore, e_X2_liveBefore_0]
  rw [h1]
  refine h5.trans ?_
  rw [ln_same hvf (z' := fun _ => 0) h2 n i hi]
  rfl
end
