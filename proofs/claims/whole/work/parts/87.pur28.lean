/-! PURE 28: the reader: ranges, letters -/
def gtX (m : Nat) (s : Int32) : Int32 := if s = nI 111 then nI 15 else if s = nI 116 then nI m else if s = nI 110 then nI 99 else nI 7
def irI (X : Nat → Nat → Int32) (m i : Nat) : Bool := alB (fun o => decide (X i (1 + o) ≤ gtX m ((fL (kx X i)).getD o 0))) 3 0
def irB (X : Nat → Nat → Int32) (m : Nat) : Bool := alB (irI X m) m 0
section
variable {sc : SC} {h h' : AH} {p pr len pos i j k n m s e : Nat} {num x x1 x2 x3 : Int32} {c f : Nat → Int32} {S : Nat → Prop} {v2 v3 v4 : AV}
theorem c_X7_greatest (hr : RP h p pr len pos c m f) (x : Int32) : Call sc n_X7_greatest [aD p, aI x] h = some (.inl (some (aI (gtX m x))), h) := by
  obtain ⟨⟨num, g⟩, gp⟩ := hr
  unfold gtX
  by_cases h1 : x = nI 111
  · simp only [c0_X7_greatest, e_X7_greatest_0, e_X7_greatest_6, h1, zI_0, if_true, if_false, eq_self, not_true_eq_false, not_false_eq_true]
  · by_cases h2 : x = nI 116
    · simp only [c0_X7_greatest, e_X7_greatest_0, e_X7_greatest_9, e_X7_greatest_15, e_X7_greatest_19, e_X7_greatest_22, h2, show ¬ nI 116 = nI 111 from by decide, g.f4, gp.f1, bO_some, bF_I, bF_D, bF_C, bC_v, pk_mul, nI_add, Option.toList, List.cons_append, List.nil_append, zI_0, if_true, if_false, eq_self, not_true_eq_false, not_false_eq_true]
    · by_cases h3 : x = nI 110
      · simp only [c0_X7_greatest, e_X7_greatest_0, e_X7_greatest_9, e_X7_greatest_23, e_X7_greatest_29, e_X7_greatest_36, h3, show ¬ nI 110 = nI 111 from by decide, show ¬ nI 110 = nI 116 from by decide, bO_some, bF_I, bF_D, bF_C, bC_v, pk_mul, nI_add, Option.toList, List.cons_append, List.nil_append, zI_0, if_true, if_false, eq_self, not_true_eq_false, not_false_eq_true]
      · simp only [c0_X7_greatest, e_X7_greatest_0, e_X7_greatest_9, e_X7_greatest_23, e_X7_greatest_34, e_X7_greatest_36, h1, h2, h3, bO_some, bF_I, bF_D, bF_C, bC_v, pk_mul, nI_add, Option.toList, List.cons_append, List.nil_append, zI_0, if_true, if_false, eq_self, not_true_eq_false, not_false_eq_true]
theorem l_ir2 (hr : RP h p pr len pos c m f) (hv : VK m (xC m f)) (hi : i < m) : ∀ d o, o + d = 3 → Run sc n_X7_isInRange 15 [aD p, aI (nI i), aI (nI o)] none [] h = if alB (fun o => decide (xC m f i (1 + o) ≤ gtX m ((fL (kx (xC m f) i)).getD o 0))) d o = true then Run sc n_X7_isInRange 58 [aD p, aI (nI i), aI (nI 3)] none [] h else some (.inl (some (aI (zI false))), h) := by
  obtain ⟨⟨num, g⟩, gp⟩ := hr
  intro d
  induction d with
  | zero =>
    intro o ho
    have : o = 3 := by omega
    subst this
    rw [e_X7_isInRange_15, if_pos (by decide)]
    rfl
  | succ d ih =>
    intro o ho
    have k1 := (hv i hi).2
    have h1 : ¬ nI 3 ≤ nI o := nI_ge (by omega) (by omega)
    have e1 := c_X6_part (sc := sc) gp hi (show 1 + o < 5 by omega)
    have e2 := c_X6_kind (sc := sc) gp hv hi
    have e3 := c_X4_sign (sc := sc) (h := h) k1 (show o < 3 by omega)
    have e4 := fun x => c_X7_greatest (sc := sc) ⟨⟨num, g⟩, gp⟩ x
    rw [e_X7_isInRange_15, if_neg h1]
    simp only [e_X7_isInRange_20, e_X7_isInRange_24, e_X7_isInRange_31, e_X7_isInRange_36, e_X7_isInRange_40, e_X7_isInRange_44, e_X7_isInRange_47, g.f4, bI_t gp.ok, bI_t g.ok, bI_t (kok k1), e1, e2, e3, e4, bO_some, bF_I, bF_D, bF_C, bC_v, pk_mul, nI_add, Option.toList, List.cons_append, List.nil_append]
    by_cases hh : xC m f i (1 + o) ≤ gtX m ((fL (kx (xC m f) i)).getD o 0)
    · rw [if_pos hh, e_X7_isInRange_52, nI_add, ih (o + 1) (by omega)]
      simp only [alB, decide_eq_true hh, Bool.true_and]
    · rw [if_neg hh, e_X7_isInRange_50]
      simp only [alB, decide_eq_false hh, Bool.false_and, reduceCtorEq, if_false]
      rfl
theorem l_ir1 (hr : RP h p pr len pos c m f) (hv : VK m (xC m f)) : ∀ d i, i + d = m → ∀ v2, Run sc n_X7_isInRange 2 [aD p, aI (nI i), v2] none [] h = some (.inl (some (aI (zI (alB (irI (xC m f) m) d i)))), h) := by
  have hr0 := hr
  obtain ⟨⟨num, g⟩, gp⟩ := hr
  have hn := gp.n60
  intro d
  induction d with
  | zero =>
    intro i hi v2
    have : i = m := by omega
    subst this
    simp only [e_X7_isInRange_2, e_X7_isInRange_7, e_X7_isInRange_10, e_X7_isInRange_64, g.f4, gp.f1, nI_le (Nat.le_refl i) (show i < 2 ^ 31 by omega), if_true, bO_some, bF_I, bF_D, bF_C, bC_v, pk_mul, nI_add, Option.toList, List.cons_append, List.nil_append]
    rfl
  | succ d ih =>
    intro i hi v2
    have h1 : ¬ nI m ≤ nI i := nI_ge (by omega) (by omega)
    have h2 : Run sc n_X7_isInRange 15 [aD p, aI (nI i), aI (nI 0)] none [] h = if irI (xC m f) m i = true then Run sc n_X7_isInRange 58 [aD p, aI (nI i), aI (nI 3)] none [] h else some (.inl (some (aI (zI false))), h) := l_ir2 (sc := sc) hr0 hv (show i < m by omega) 3 0 rfl
    rw [e_X7_isInRange_2, g.f4, bF_D, e_X7_isInRange_7, gp.f1, bF_I, e_X7_isInRange_10, if_neg h1, e_X7_isInRange_13, h2]
    by_cases hh : irI (xC m f) m i = true
    · rw [if_pos hh, e_X7_isInRange_58, nI_add, ih (i + 1) (by omega)]
      simp only [alB, hh, Bool.true_and]
    · rw [if_neg hh]
      rw [Bool.not_eq_true] at hh
      simp only [alB, hh, Bool.false_and]
theorem c_X7_isInRange (hr : RP h p pr len pos c m f) (hv : VK m (xC m f)) : Call sc n_X7_isInRange [aD p] h = some (.inl (some (aI (zI (irB (xC m f) m)))), h) := by
  rw [c0_X7_isInRange, e_X7_isInRange_0]
  exact l_ir1 hr hv m 0 (by omega) aU
theorem c_X7_takes (g : RD h p pr len pos num c) (x : Int32) : ∃ h', Call sc n_X7_takes [aD p, aI x] h = some (.inl (some (aI (zI (decide (len < 120))))), h') ∧ RD h' p pr (if len < 120 then len + 1 else len) pos num (if len < 120 then upd c len (narK 1 x) else c) ∧ Fr (fun y => y = p ∨ y = p + 1) h h' := by
  have h1 := g.2.2.1
  have h2 := g.2.2.2
  by_cases hl : len < 120
  · have h3 : nI len < nI 120 := Int32.not_le.mp (nI_ge hl (by omega))
    have e1 : stI h (fun t => t == 1) (p + 1) (nI len) x = some (hset h (p + 1) (oI 1 120 (upd c len (narK 1 x)))) := stI_D g.2.1 rfl hl (by omega)
    have a1 : hget (hset h (p + 1) (oI 1 120 (upd c len (narK 1 x)))) p = some (oO 9 [aD (p + 1), aI (nI len), aI (nI pos), aI num, aD pr]) := by
      rw [hget_ne (by omega)]
      exact g.1
    have f1 : getF sc (hset h (p + 1) (oI 1 120 (upd c len (narK 1 x)))) (aD p) 9 1 = some (aI (nI len)) := getF_D a1 rfl
    have e2 : putF (hset h (p + 1) (oI 1 120 (upd c len (narK 1 x)))) p 9 1 0 (aI (nI (len + 1))) = some (hset (hset h (p + 1) (oI 1 120 (upd c len (narK 1 x)))) p (oO 9 [aD (p + 1), aI (nI (len + 1)), aI (nI pos), aI num, aD pr])) := by
      rw [putF_D a1 (show 1 < 5 by decide) rfl]
      rfl
    rw [if_pos hl, if_pos hl, decide_eq_true hl]
    refine ⟨_, ?_, ⟨hget_set a1, ?_, by omega, by omega⟩, ((fr_set (o := oI 1 120 (upd c len (narK 1 x))) g.2.1 rfl).mono (fun _ z => Or.inr z)).trans ((fr_set (o := oO 9 [aD (p + 1), aI (nI (len + 1)), aI (nI pos), aI num, aD pr]) a1 rfl).mono (fun _ z => Or.inl z))⟩
    · simp only [c0_X7_takes, e_X7_takes_0, e_X7_takes_4, e_X7_takes_9, e_X7_takes_11, e_X7_takes_15, e_X7_takes_19, e_X7_takes_21, e_X7_takes_26, e_X7_takes_31, g.f0, g.f1, h3, e1, f1, e2, if_true, bO_some, bF_I, bF_D, bF_C, bC_v, pk_mul, nI_add, Option.toList, List.cons_append, List.nil_append]
      rfl
    · rw [hget_ne (by omega)]
      exact hget_set g.2.1
  · have h3 : ¬ nI len < nI 120 := Int32.not_lt.mpr (nI_le (by omega) (by omega))
    rw [if_neg hl, if_neg hl, decide_eq_false hl]
    refine ⟨h, ?_, g, Fr.rfl⟩
    simp only [c0_X7_takes, e_X7_takes_0, e_X7_takes_4, e_X7_takes_9, e_X7_takes_11, e_X7_takes_15, e_X7_takes_19, e_X7_takes_21, e_X7_takes_26, e_X7_takes_31, g.f1, h3, if_false, bO_some, bF_I, bF_D, bF_C, bC_v, pk_mul, nI_add, Option.toList, List.cons_append, List.nil_append]
    rfl
end
