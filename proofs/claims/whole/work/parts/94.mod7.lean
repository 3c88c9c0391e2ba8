/-! PURE 35: the reference's form, written -/
def gset (h : AH) (qf : Nat) (g : Nat → Int32) : AH := hset h qf (oI 0 301 g)
def pu5 (g : Nat → Int32) (i : Nat) (k a b c z : Int32) : Nat → Int32 := upd (upd (upd (upd (upd g (1 + 5 * i) k) (1 + 5 * i + 1) a) (1 + 5 * i + 2) b) (1 + 5 * i + 3) c) (1 + 5 * i + 4) z
def rwX (X : Nat → Nat → Int32) (i : Nat) (K : Nat → Int32) : Nat → Nat → Int32 := fun a w => if a = i then K w else X a w
theorem pu5_at (g : Nat → Int32) (i : Nat) (k a b c z : Int32) {j w : Nat} (hw : w < 5) : pu5 g i k a b c z (1 + 5 * j + w) = if j = i then row k a b c z w else g (1 + 5 * j + w) := by
  unfold pu5 row
  simp only [upd_eq]
  by_cases hj : j = i
  · subst hj
    have h3 : w = 0 ∨ w = 1 ∨ w = 2 ∨ w = 3 ∨ w = 4 := by omega
    rcases h3 with rfl | rfl | rfl | rfl | rfl <;> simp
  · rw [if_neg hj]
    repeat rw [if_neg (by omega)]
theorem pu5_0 (g : Nat → Int32) (i : Nat) (k a b c z : Int32) : pu5 g i k a b c z 0 = g 0 := by
  unfold pu5
  simp only [upd_eq]
  repeat rw [if_neg (by omega)]
theorem xM_pu5 {n i : Nat} {g : Nat → Int32} {k a b c z : Int32} (hi : i < n) : xM n (pu5 g i k a b c z) = rwX (xM n g) i (row k a b c z) := by
  funext j w
  show (if j < n ∧ w < 5 then pu5 g i k a b c z (1 + 5 * j + w) else 0) = if j = i then row k a b c z w else (if j < n ∧ w < 5 then g (1 + 5 * j + w) else 0)
  by_cases hh : j < n ∧ w < 5
  · rw [if_pos hh, if_pos hh]
    exact pu5_at g i k a b c z hh.2
  · rw [if_neg hh, if_neg hh]
    by_cases hj : j = i
    · rw [if_pos hj]
      unfold row
      repeat rw [if_neg (by omega)]
    · rw [if_neg hj]
theorem xM_app {n : Nat} {g : Nat → Int32} {k a b c z : Int32} : xM (n + 1) (pu5 g n k a b c z) = appX n (xM n g) (row k a b c z) := by
  funext j w
  show (if j < n + 1 ∧ w < 5 then pu5 g n k a b c z (1 + 5 * j + w) else 0) = if j = n then (if w < 5 then row k a b c z w else 0) else (if j < n ∧ w < 5 then g (1 + 5 * j + w) else 0)
  by_cases hw : w < 5
  · rw [pu5_at g n k a b c z hw]
    by_cases hj : j = n
    · rw [if_pos (show j < n + 1 ∧ w < 5 from ⟨by omega, hw⟩), if_pos hj, if_pos hj, if_pos hw]
    · rw [if_neg hj, if_neg hj]
      by_cases hh : j < n
      · rw [if_pos (show j < n + 1 ∧ w < 5 from ⟨by omega, hw⟩), if_pos (show j < n ∧ w < 5 from ⟨hh, hw⟩)]
      · rw [if_neg (show ¬ (j < n + 1 ∧ w < 5) by omega), if_neg (show ¬ (j < n ∧ w < 5) by omega)]
  · rw [if_neg (show ¬ (j < n + 1 ∧ w < 5) from fun z => hw z.2), if_neg (show ¬ (j < n ∧ w < 5) from fun z => hw z.2), if_neg hw]
    split <;> rfl
section
variable {sc : SC} {h h' : AH} {p qf n m i j w e : Nat} {fs : List AV} {g g' : Nat → Int32} {x k a b c z : Int32} {S : Nat → Prop} {v2 v3 v7 : AV}
theorem FO.to (o : FO h p fs qf n g) (hp : ¬ p = qf) (h0 : g' 0 = nI m) (hm : m ≤ 60) : FO (gset h qf g') p fs qf m g' := ⟨(hget_ne hp).trans o.1, o.2.1, hget_set o.2.2.1, h0, hm⟩
theorem gset_gset : gset (gset h qf g) qf g' = gset h qf g' := hset_hset
theorem FO.self (o : FO h p fs qf n g) : gset h qf g = h := hset_self o.2.2.1
theorem FO.fr (o : FO h p fs qf n g) : Fr (fun y => y = qf) h (gset h qf g') := fr_set o.2.2.1 rfl
theorem FO.st (o : FO h p fs qf n g) (hj : j < 301) : stI (gset h qf g') (fun t => t == 0) qf (nI j) x = some (gset h qf (upd g' j x)) := by
  have h1 : hget (gset h qf g') qf = some (oI 0 301 g') := hget_set o.2.2.1
  rw [stI_D h1 rfl hj (by omega)]
  show some (hset (gset h qf g') qf (oI 0 301 (upd g' j x))) = _
  unfold gset
  rw [hset_hset]
theorem FO.st0 (o : FO h p fs qf n g) (hj : j < 301) : stI h (fun t => t == 0) qf (nI j) x = some (gset h qf (upd g j x)) := by
  have h1 := o.st (g' := g) (x := x) hj
  rw [o.self] at h1
  exact h1
theorem FO.f3g (o : FO h p fs qf n g) (hp : ¬ p = qf) : getF sc (gset h qf g') (aD p) 12 3 = some (aD qf) := getF_D ((hget_ne hp).trans o.1) o.2.1
theorem c_X10_put (o : FO h p fs qf n g) (hp : ¬ p = qf) (hi : i < 60) : Call sc n_X10_put [aD p, aI (nI i), aI k, aI a, aI b, aI c, aI z] h = some (.inl none, gset h qf (pu5 g i k a b c z)) := by
  simp only [c0_X10_put, e_X10_put_0, e_X10_put_11, e_X10_put_15, e_X10_put_19, e_X10_put_25, e_X10_put_29, e_X10_put_36, e_X10_put_40, e_X10_put_47, e_X10_put_51, e_X10_put_58, o.f3, o.f3g hp, bO_some, bF_I, bF_D, bF_C, bC_v, pk_mul, nI_add, Option.toList, List.cons_append, List.nil_append, o.st0 (show 1 + 5 * i < 301 by omega), o.st (show 1 + 5 * i + 1 < 301 by omega), o.st (show 1 + 5 * i + 2 < 301 by omega), o.st (show 1 + 5 * i + 3 < 301 by omega), o.st (show 1 + 5 * i + 4 < 301 by omega)]
  rfl
theorem c_atR (o : FO h p fs qf n g) (hi : i < 60) (hw : w < 5) : Call sc n_X10_at [aD p, aI (nI i), aI (nI w)] h = some (.inl (some (aI (g (1 + 5 * i + w)))), h) := by
  have e := o.ld (sc := sc) (show 1 + 5 * i + w < 301 by omega)
  simp only [c0_X10_at, e_X10_at_0, e_X10_at_4, e_X10_at_12, o.f3, bO_some, bF_I, bF_D, bF_C, bC_v, pk_mul, nI_add, Option.toList, List.cons_append, List.nil_append, e]
/-- the rows behind e move up -/
theorem l_tk1 (o : FO h p fs qf n g) (hp : ¬ p = qf) (hm : m + 1 ≤ 60) : ∀ d j, j + d = m → e ≤ j → ∀ g', g' 0 = nI m → (∀ a w, w < 5 → g' (1 + 5 * a + w) = if e ≤ a ∧ a < j then g (1 + 5 * (a + 1) + w) else g (1 + 5 * a + w)) → ∃ g'', Run sc n_X10_take 12 [aD p, aI (nI e), aI (nI j)] none [] (gset h qf g') = Run sc n_X10_take 73 [aD p, aI (nI e), aI (nI m)] none [] (gset h qf g'') ∧ g'' 0 = nI m ∧ (∀ a w, w < 5 → g'' (1 + 5 * a + w) = if e ≤ a ∧ a < m then g (1 + 5 * (a + 1) + w) else g (1 + 5 * a + w)) := by
  intro d
  induction d with
  | zero =>
    intro j hj hej g' h0 hg
    have : j = m := by omega
    subst this
    have o1 := o.to (m := j) hp h0 (by omega)
    refine ⟨g', ?_, h0, hg⟩
    simp only [e_X10_take_12, e_X10_take_17, e_X10_take_19, o1.f3, o1.ld (show 0 < 301 by omega), h0, bO_some, bF_I, bF_D, bF_C, bC_v, pk_mul, nI_add, Option.toList, List.cons_append, List.nil_append, nI_le (Nat.le_refl j) (show j < 2 ^ 31 by omega), if_true]
  | succ d ih =>
    intro j hj hej g' h0 hg
    have o1 := o.to (m := m) hp h0 (by omega)
    have h1 : ¬ nI m ≤ nI j := nI_ge (by omega) (by omega)
    have ea := fun w (hw : w < 5) => c_atR (sc := sc) (i := j + 1) (w := w) o1 (by omega) hw
    have ep := fun k a b c z => c_X10_put (sc := sc) (i := j) (k := k) (a := a) (b := b) (c := c) (z := z) o1 hp (by omega)
    simp only [gset_gset] at ep
    obtain ⟨g'', q1, q2, q3⟩ := ih (j + 1) (by omega) (by omega) (pu5 g' j (g' (1 + 5 * (j + 1) + 0)) (g' (1 + 5 * (j + 1) + 1)) (g' (1 + 5 * (j + 1) + 2)) (g' (1 + 5 * (j + 1) + 3)) (g' (1 + 5 * (j + 1) + 4))) (by rw [pu5_0]; exact h0) (fun a w hw => by
      rw [pu5_at _ _ _ _ _ _ _ hw]
      by_cases haj : a = j
      · subst haj
        rw [if_pos rfl, if_pos ⟨hej, by omega⟩]
        have h9 : ∀ w, w < 5 → g' (1 + 5 * (a + 1) + w) = g (1 + 5 * (a + 1) + w) := fun w hw => by
          rw [hg (a + 1) w hw, if_neg (by omega)]
        have h3 : w = 0 ∨ w = 1 ∨ w = 2 ∨ w = 3 ∨ w = 4 := by omega
        rcases h3 with rfl | rfl | rfl | rfl | rfl <;> exact h9 _ hw
      · rw [if_neg haj, hg a w hw]
        by_cases h4 : e ≤ a ∧ a < j
        · rw [if_pos h4, if_pos ⟨h4.1, by omega⟩]
        · rw [if_neg h4, if_neg (by omega)])
    refine ⟨g'', ?_, q2, q3⟩
    rw [← q1, e_X10_take_12]
    simp only [e_X10_take_17, e_X10_take_19, e_X10_take_22, e_X10_take_32, e_X10_take_40, e_X10_take_48, e_X10_take_56, e_X10_take_64, e_X10_take_67, o1.f3, o1.ld (show 0 < 301 by omega), h0, h1, bI_t o1.ok, ea 0 (by omega), ea 1 (by omega), ea 2 (by omega), ea 3 (by omega), ea 4 (by omega), ep, bO_some, bF_I, bF_D, bF_C, bC_v, pk_mul, nI_add, Option.toList, List.cons_append, List.nil_append, zI_0, if_true, if_false, eq_self, not_true_eq_false, not_false_eq_true]
end
