/-! PURE 36: the reference takes an entry away -/
theorem xM_upd {n i w : Nat} {g : Nat → Int32} {x : Int32} (hi : i < n) (hw : w < 5) : xM n (upd g (1 + 5 * i + w) x) = ptX (xM n g) i w x := by
  funext i' w'
  show (if i' < n ∧ w' < 5 then upd g (1 + 5 * i + w) x (1 + 5 * i' + w') else 0) = if i' = i ∧ w' = w then x else (if i' < n ∧ w' < 5 then g (1 + 5 * i' + w') else 0)
  rw [upd_eq]
  by_cases h1 : i' < n ∧ w' < 5
  · by_cases h2 : i' = i ∧ w' = w
    · rw [if_pos h1, if_pos h2, if_pos (by obtain ⟨rfl, rfl⟩ := h2; rfl)]
    · rw [if_pos h1, if_neg h2, if_neg (by omega), if_pos h1]
  · rw [if_neg h1, if_neg (by omega), if_neg h1]
theorem dn_0 (e : Nat) (R : Nat → Nat → Int32) : dnX e R 0 = R := by
  funext i w
  unfold dnX
  rw [if_neg (by omega)]
section
variable {sc : SC} {h h' : AH} {p qf n m i j w e : Nat} {fs : List AV} {g g' : Nat → Int32} {x k a b c z : Int32} {S : Nat → Prop} {v2 v3 v7 : AV}
theorem l_tk2 (o : FO h p fs qf n g) (hp : ¬ p = qf) (hm : m ≤ 60) {R : Nat → Nat → Int32} (hv : VK m R) : ∀ d j, j + d = m → ∀ g', g' 0 = nI m → xM m g' = dnX e R j → ∃ g'', Run sc n_X10_take 75 [aD p, aI (nI e), aI (nI j)] none [] (gset h qf g') = some (.inl none, gset h qf g'') ∧ g'' 0 = nI m ∧ xM m g'' = dnX e R m := by
  intro d
  induction d with
  | zero =>
    intro j hj g' h0 hg
    have : j = m := by omega
    subst this
    have o1 := o.to (m := j) hp h0 hm
    refine ⟨g', ?_, h0, hg⟩
    simp only [e_X10_take_75, e_X10_take_80, e_X10_take_82, e_X10_take_129, o1.f3, o1.ld (show 0 < 301 by omega), h0, bO_some, bF_I, bF_D, bF_C, bC_v, pk_mul, nI_add, Option.toList, List.cons_append, List.nil_append, nI_le (Nat.le_refl j) (show j < 2 ^ 31 by omega), if_true]
  | succ d ih =>
    intro j hj g' h0 hg
    have o1 := o.to (m := m) hp h0 hm
    have hjm : j < m := by omega
    have h1 : ¬ nI m ≤ nI j := nI_ge (by omega) (by omega)
    have hv1 : VK m (xM m g') := by
      rw [hg]
      exact VK_dn hv
    have e0 := c_atK (sc := sc) o1 hv1 hjm
    have e3 := c_at (sc := sc) o1 hjm (show 3 < 5 by omega)
    have el := o1.ld (sc := sc) (show 1 + 5 * j + 3 < 301 by omega)
    rw [xM_at (g := g') hjm (show 3 < 5 by omega)] at el
    rw [hg, kx_dn] at e0
    rw [hg, dn_3] at e3 el
    have es := fun x => o.st (g' := g') (x := x) (show 1 + 5 * j + 3 < 301 by omega)
    rw [e_X10_take_75]
    simp only [e_X10_take_80, e_X10_take_82, e_X10_take_85, e_X10_take_91, e_X10_take_94, o1.f3, o1.ld (show 0 < 301 by omega), h0, h1, bI_t o1.ok, e0, c_isBranch (hv j hjm).2, bO_some, bF_I, bF_D, bF_C, bC_v, pk_mul, nI_add, Option.toList, List.cons_append, List.nil_append, zI_0, if_true, if_false, eq_self, not_true_eq_false, not_false_eq_true]
    by_cases hb : kBr (kx R j) = true
    · by_cases ht : R j 3 ≤ nI e
      · obtain ⟨g'', q1, q2⟩ := ih (j + 1) (by omega) g' h0 (by rw [hg, dn_skip (fun z => z.2 ht)])
        refine ⟨g'', ?_, q2⟩
        simp only [hb, ht, e_X10_take_97, e_X10_take_103, e_X10_take_123, bI_t o1.ok, e3, bO_some, bF_I, bF_D, bF_C, bC_v, pk_mul, nI_add, Option.toList, List.cons_append, List.nil_append, zI_0, if_true, if_false, eq_self, not_true_eq_false, not_false_eq_true, reduceCtorEq]
        exact q1
      · obtain ⟨g'', q1, q2⟩ := ih (j + 1) (by omega) (upd g' (1 + 5 * j + 3) (R j 3 - nI 1)) (by rw [upd_eq, if_neg (by omega)]; exact h0) (by rw [xM_upd hjm (by omega), hg, dn_hit ⟨hb, ht⟩])
        refine ⟨g'', ?_, q2⟩
        simp only [hb, ht, e_X10_take_97, e_X10_take_103, e_X10_take_107, e_X10_take_111, e_X10_take_120, e_X10_take_123, bI_t o1.ok, o1.f3, e3, el, es, bO_some, bF_I, bF_D, bF_C, bC_v, pk_mul, nI_add, Option.toList, List.cons_append, List.nil_append, zI_0, if_true, if_false, eq_self, not_true_eq_false, not_false_eq_true, reduceCtorEq]
        exact q1
    · have hb' := hb
      rw [Bool.not_eq_true] at hb'
      obtain ⟨g'', q1, q2⟩ := ih (j + 1) (by omega) g' h0 (by rw [hg, dn_skip (fun z => hb z.1)])
      refine ⟨g'', ?_, q2⟩
      simp only [hb', e_X10_take_123, bO_some, bF_I, bF_D, bF_C, bC_v, pk_mul, nI_add, Option.toList, List.cons_append, List.nil_append, zI_0, if_true, if_false, eq_self, not_true_eq_false, not_false_eq_true]
      exact q1
theorem c_X10_take (o : FO h p fs qf n g) (hp : ¬ p = qf) (hv : VK n (xM n g)) (he : e < n) : ∃ g'', Call sc n_X10_take [aD p, aI (nI e)] h = some (.inl none, gset h qf g'') ∧ g'' 0 = nI (n - 1) ∧ xM (n - 1) g'' = dnX e (rmX e (xM n g)) (n - 1) := by
  have hn := o.2.2.2.2
  have h0 := o.2.2.2.1
  have u0 : ∀ a w, upd g 0 (nI (n - 1)) (1 + 5 * a + w) = g (1 + 5 * a + w) := fun a w => by
    rw [upd_eq, if_neg (by omega)]
  obtain ⟨g1, q1, q2, q3⟩ := l_tk1 (sc := sc) (m := n - 1) (e := e) o hp (by omega) (n - 1 - e) e (by omega) (Nat.le_refl e) (upd g 0 (nI (n - 1))) (by rw [upd_eq, if_pos rfl]) (fun a w hw => by rw [u0, if_neg (by omega)])
  have hx : xM (n - 1) g1 = dnX e (rmX e (xM n g)) 0 := by
    rw [dn_0]
    funext i w
    show (if i < n - 1 ∧ w < 5 then g1 (1 + 5 * i + w) else 0) = if i < e then (if i < n ∧ w < 5 then g (1 + 5 * i + w) else 0) else (if i + 1 < n ∧ w < 5 then g (1 + 5 * (i + 1) + w) else 0)
    by_cases h1 : i < n - 1 ∧ w < 5
    · rw [if_pos h1, q3 i w h1.2]
      by_cases h2 : i < e
      · rw [if_neg (by omega), if_pos h2, if_pos (by omega)]
      · rw [if_pos (by omega), if_neg h2, if_pos (by omega)]
    · rw [if_neg h1]
      by_cases h2 : i < e
      · rw [if_pos h2, if_neg (by omega)]
      · rw [if_neg h2, if_neg (by omega)]
  obtain ⟨g2, r1, r2, r3⟩ := l_tk2 (sc := sc) (e := e) o hp (show n - 1 ≤ 60 by omega) (VK_rm (e := e) hv) (n - 1) 0 (by omega) g1 q2 hx
  refine ⟨g2, ?_, r2, r3⟩
  simp only [c0_X10_take, e_X10_take_0, e_X10_take_4, e_X10_take_7, e_X10_take_10, o.f3, o.ld (show 0 < 301 by omega), h0, pk_sub (show 1 ≤ n by omega), o.st0 (show 0 < 301 by omega), bO_some, bF_I, bF_D, bF_C, bC_v, pk_mul, nI_add, Option.toList, List.cons_append, List.nil_append]
  rw [q1, e_X10_take_73]
  exact r1
end
