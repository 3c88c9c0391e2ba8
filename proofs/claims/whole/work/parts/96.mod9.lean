/-! PURE 37: the reference fills a slot -/
section
variable {sc : SC} {h h' : AH} {p qf n m i j b w e : Nat} {fs : List AV} {g g' : Nat → Int32} {x k a c z : Int32} {S : Nat → Prop} {v2 v3 v7 : AV}
theorem rw_cp (hz : xM n g e 4 = 0) : rwX (xM n g) i (row (xM n g e 0) (xM n g e 1) (xM n g e 2) (xM n g e 3) 0) = cpI (xM n g) e i := by
  funext a w
  unfold rwX cpI
  by_cases ha : a = i
  · rw [if_pos ha, if_pos ha]
    unfold row
    by_cases h0 : w = 0
    · rw [if_pos h0, h0]
    · by_cases h1 : w = 1
      · rw [if_neg h0, if_pos h1, h1]
      · by_cases h2 : w = 2
        · rw [if_neg h0, if_neg h1, if_pos h2, h2]
        · by_cases h3 : w = 3
          · rw [if_neg h0, if_neg h1, if_neg h2, if_pos h3, h3]
          · by_cases h4 : w = 4
            · rw [if_neg h0, if_neg h1, if_neg h2, if_neg h3, if_pos h4, h4, hz]
            · rw [if_neg h0, if_neg h1, if_neg h2, if_neg h3, if_neg h4]
              unfold xM nm
              rw [if_neg (by omega)]
  · rw [if_neg ha, if_neg ha]
theorem c_doFill (o : FO h p fs qf n g) (hp : ¬ p = qf) (hw : WF n (xM n g)) (hb : b < n) (hk : kBr (kx (xM n g) b) = true) (he : e < n) (hc : cfK (kx (xM n g) e) = true) {way : Nat} (hway : way < 3) : ∃ g', Call sc n_X10_doFill [aD p, aI (nI b), aI (nI way), aI (nI e)] h = some (.inl (some (aI (if way = 0 then nI b - nI 1 else nI b))), gset h qf g') ∧ g' 0 = nI (mvN n way) ∧ xM (mvN n way) g' = mvX (xM n g) n b way e := by
  have hn := o.2.2.2.2
  have hb2 := hw.2.2.1 b hb hk
  have hz : xM n g e 4 = 0 := by
    rcases hw.2.2.2.1 e he with h1 | h1
    · exact h1
    · have := (cfK_br hc).2.2.2
      rw [this] at h1
      cases h1.2
  have a0 := c_at (sc := sc) o he (show 0 < 5 by omega)
  have a1 := c_at (sc := sc) o he (show 1 < 5 by omega)
  have a2 := c_at (sc := sc) o he (show 2 < 5 by omega)
  have a3 := c_at (sc := sc) o he (show 3 < 5 by omega)
  have ep := c_X10_put (sc := sc) (i := b + 1) (k := xM n g e 0) (a := xM n g e 1) (b := xM n g e 2) (c := xM n g e 3) (z := nI 0) o hp (by omega)
  have hx1 : xM n (pu5 g (b + 1) (xM n g e 0) (xM n g e 1) (xM n g e 2) (xM n g e 3) (nI 0)) = cpI (xM n g) e (b + 1) := by
    rw [xM_pu5 hb2]
    exact rw_cp hz
  have h00 : pu5 g (b + 1) (xM n g e 0) (xM n g e 1) (xM n g e 2) (xM n g e 3) (nI 0) 0 = nI n := by
    rw [pu5_0]
    exact o.2.2.2.1
  generalize pu5 g (b + 1) (xM n g e 0) (xM n g e 1) (xM n g e 2) (xM n g e 3) (nI 0) = g1 at *
  have o1 := o.to (m := n) hp h00 hn
  have hv1 : VK n (xM n g1) := by
    rw [hx1]
    exact VK_cp hw.1 he
  have e0 := c_atK (sc := sc) o1 hv1 hb
  rw [hx1, kx_cp, if_neg (show ¬ b = b + 1 by omega)] at e0
  have st4 := fun z => o.st (g' := g1) (x := z) (show 1 + 5 * b + 4 < 301 by omega)
  have hx2 : ∀ z, xM n (upd g1 (1 + 5 * b + 4) z) = ptX (cpI (xM n g) e (b + 1)) b 4 z := fun z => by
    rw [xM_upd hb (by omega), hx1]
  have h02 : ∀ z, upd g1 (1 + 5 * b + 4) z 0 = nI n := fun z => by
    rw [upd_eq, if_neg (by omega)]
    exact h00
  unfold mvX mvN
  by_cases h1 : way = 1
  · subst h1
    have st3 := fun z => o.st (g' := upd g1 (1 + 5 * b + 4) z) (x := nI (e + 1)) (show 1 + 5 * b + 3 < 301 by omega)
    have o2 := fun z => o.to (m := n) hp (h02 z) hn
    refine ⟨upd (upd g1 (1 + 5 * b + 4) (if kCo (kx (xM n g) b) = true then nI 1 else nI 0)) (1 + 5 * b + 3) (nI (e + 1)), ?_, ?_, ?_⟩
    · rw [if_neg (show ¬ 1 = 0 by omega)]
      have T64 : ∀ z, Run sc n_X10_doFill 64 [aD p, aI (nI b), aI (nI 1), aI (nI e)] none [aI z, aI (nI (1 + 5 * b + 4)), aD qf] (gset h qf g1) = some (.inl (some (aI (nI b))), gset h qf (upd (upd g1 (1 + 5 * b + 4) z) (1 + 5 * b + 3) (nI (e + 1)))) := by
        intro z
        simp only [e_X10_doFill_64, e_X10_doFill_65, e_X10_doFill_70, e_X10_doFill_74, e_X10_doFill_85, st4, (o2 z).f3, st3, bO_some, bF_I, bF_D, bF_C, bC_v, pk_mul, nI_add, Option.toList, List.cons_append, List.nil_append, zI_0, if_true, if_false, eq_self, not_true_eq_false, not_false_eq_true]
      simp only [c0_X10_doFill, e_X10_doFill_0, e_X10_doFill_10, e_X10_doFill_16, e_X10_doFill_22, e_X10_doFill_28, e_X10_doFill_32, e_X10_doFill_36, e_X10_doFill_48, e_X10_doFill_54, bI_t o.ok, a0, a1, a2, a3, ep, o1.f3, bI_t o1.ok, e0, bO_some, bF_I, bF_D, bF_C, bC_v, pk_mul, nI_add, Option.toList, List.cons_append, List.nil_append, zI_0, if_true, if_false, eq_self, not_true_eq_false, not_false_eq_true, eqI (show kx (xM n g) b < 2 ^ 31 by have := (hw.1 b hb).2; omega) (show 10 < 2 ^ 31 by omega)]
      rcases br_10 (hw.1 b hb).2 hk with ⟨hc1, h10⟩ | ⟨hc1, h10⟩
      · rw [if_pos h10, e_X10_doFill_63, T64, hc1, if_neg (by decide)]
      · rw [if_neg h10, e_X10_doFill_59, T64, hc1, if_pos rfl]
    · rw [if_pos rfl, upd_eq, if_neg (by omega)]
      exact h02 _
    · rw [if_pos rfl, if_pos rfl, xM_upd hb (by omega), hx2]
      funext i w
      simp only [pt_at]
      by_cases h7 : i = b ∧ w = 3
      · rw [if_pos h7, if_neg (show ¬ (i = b ∧ w = 4) by omega), if_pos h7]
      · rw [if_neg h7, if_neg h7]
  · have o2 := o.to (m := n) hp (h02 (nI 0)) hn
    have hv2 : VK n (xM n (upd g1 (1 + 5 * b + 4) (nI 0))) := by
      rw [hx2]
      exact VK_pt (VK_cp hw.1 he) (by omega)
    obtain ⟨g2, q1, q2, q3⟩ := c_X10_take (sc := sc) o2 hp hv2 he
    rw [gset_gset] at q1
    rw [hx2] at q3
    have h2 : ¬ nI way = nI 1 := fun z => h1 (nI_inj (by omega) (by omega) z)
    refine ⟨g2, ?_, ?_, ?_⟩
    · simp only [c0_X10_doFill, e_X10_doFill_0, e_X10_doFill_10, e_X10_doFill_16, e_X10_doFill_22, e_X10_doFill_28, e_X10_doFill_32, e_X10_doFill_36, e_X10_doFill_63, e_X10_doFill_64, e_X10_doFill_65, e_X10_doFill_87, e_X10_doFill_92, bI_t o.ok, a0, a1, a2, a3, ep, o1.f3, h2, st4, bI_t o2.ok, q1, bO_some, bF_I, bF_D, bF_C, bC_v, pk_mul, nI_add, Option.toList, List.cons_append, List.nil_append, zI_0, if_true, if_false, eq_self, not_true_eq_false, not_false_eq_true]
      by_cases h3 : way = 0
      · subst h3
        simp only [show (nI 0 = 0) = True from eq_true (by decide), e_X10_doFill_96, e_X10_doFill_103, zI_0, if_true, if_false, eq_self, not_true_eq_false, not_false_eq_true]
      · have h4 : ¬ nI way = 0 := fun z => h3 (nI_inj (b := 0) (by omega) (by omega) z)
        simp only [h4, h3, e_X10_doFill_102, e_X10_doFill_103, zI_0, if_true, if_false, eq_self, not_true_eq_false, not_false_eq_true]
    · rw [if_neg h1]
      exact q2
    · rw [if_neg h1, if_neg h1]
      exact q3
end
