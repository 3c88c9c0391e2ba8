/-! PURE 11: candidates -/
def enc (o : Option Nat) : Int32 := match o with
  | none => -1
  | some i => nI i
def cpX (X : Nat → Nat → Int32) (i : Nat) : Nat → Nat → Bool
  | 0, _ => true
  | d + 1, k => indX X i k && cpX X i d (k + 1)
def bfX (X : Nat → Nat → Int32) (n b : Nat) : Nat → Option Nat
  | 0 => none
  | j + 1 => if (kBr (kx X j) || (Nat.beq (kx X j) 11 || slX X j)) = true then none
    else if (cfK (kx X j) && cpX X j (b - j) (j + 1)) = true then some j
    else if 0 < toX n X (nI j) then none
    else bfX X n b j
def btX (X : Nat → Nat → Int32) (n b : Nat) : Option Nat := if 0 < toX n X (nI b) then none else bfX X n b b
def atX (X : Nat → Nat → Int32) (n b : Nat) : Option Nat := if ltX X b < n ∧ cfK (kx X (ltX X b)) = true then some (ltX X b) else none
def ftX (X : Nat → Nat → Int32) (n b : Nat) : Option Nat :=
  if ¬ (kCo (kx X b) = true ∧ b + 2 < n) then none
  else if ¬ (cfK (kx X (b + 2)) = true ∧ ¬ kx X (b + 2) = 6 ∧ ¬ kx X (b + 2) = 7 ∧ ¬ 0 < toX n X (nI (b + 2))) then none
  else if (wrX X (b + 2) &&& lvAt X n (ltX X b)) = 0 then some (b + 2) else none
def fdX (X : Nat → Nat → Int32) (n b way : Nat) : Option Nat := if way = 0 then btX X n b else if way = 1 then atX X n b else ftX X n b
def FI (h : AH) (p q t : Nat) : Prop := hget h p = some (oO 4 [aD q, aD t])
section
variable {sc : SC} {h : AH} {p q t N n b i k : Nat} {f l r w s : Nat → Int32} {x : Int32} {v3 : AV}
theorem FI.f0 (g : FI h p q t) : getF sc h (aD p) 4 0 = some (aD q) := getF_D g rfl
theorem FI.f1 (g : FI h p q t) : getF sc h (aD p) 4 1 = some (aD t) := getF_D g rfl
theorem FI.ok (g : FI h p q t) : rOK sc h (aD p) 4 = true := rOK_D g
theorem nI_le0 {m : Nat} (hm : m < 2 ^ 31) : (nI m ≤ 0) = ¬ 0 < m := by
  apply propext
  constructor
  · intro h1 h2
    exact nI_nle h2 hm h1
  · intro h1
    have h2 : m = 0 := by omega
    subst h2
    decide
theorem to_le (n : Nat) (X : Nat → Nat → Int32) (x : Int32) : toX n X x ≤ n := cnt_le n _
theorem l_X1_canPass (g : FI h p q t) (gp : PG h q N n f) (hv : VK n (xC n f)) (hi : i < n) (hb : b < n) : ∀ d k, k + d = b + 1 → Run sc n_X1_canPass 4 [aD p, aI (nI i), aI (nI b), aI (nI k)] none [] h = some (.inl (some (aI (zI (cpX (xC n f) i d k)))), h) := by
  have hn := gp.n60
  intro d
  induction d with
  | zero =>
    intro k hk
    have h1 : nI b < nI k := Int32.not_le.mp (nI_ge (by omega) (by omega))
    simp only [e_X1_canPass_0, e_X1_canPass_4, e_X1_canPass_9, e_X1_canPass_13, e_X1_canPass_18, e_X1_canPass_21, e_X1_canPass_23, e_X1_canPass_29, h1, if_true]
    rfl
  | succ d ih =>
    intro k hk
    have h1 : ¬ nI b < nI k := Int32.not_lt.mpr (nI_le (by omega) (by omega))
    have h2 := ih (k + 1) (by omega)
    have e1 := c_X6_areIndependent (sc := sc) gp hv hi (show k < n by omega)
    rw [e_X1_canPass_4]
    simp only [e_X1_canPass_9, e_X1_canPass_13, e_X1_canPass_18, h1, if_false, g.f0, bI_t gp.ok, e1, bO_some, bF_I, bF_D, bF_C, bC_v, pk_mul, nI_add, Option.toList, List.cons_append, List.nil_append]
    by_cases hh : indX (xC n f) i k = true
    · simp only [cpX, hh, Bool.true_and]
      simp only [hh, e_X1_canPass_23, bO_some, bF_I, bF_D, bF_C, bC_v, pk_mul, nI_add, Option.toList, List.cons_append, List.nil_append, zI_0, if_true, if_false, eq_self, not_true_eq_false, not_false_eq_true, reduceCtorEq]
      exact h2
    · rw [Bool.not_eq_true] at hh
      simp only [cpX, hh, Bool.false_and, e_X1_canPass_21, zI_0, if_true, if_false, eq_self, not_true_eq_false, not_false_eq_true]
      rfl
theorem c_X1_canPass (g : FI h p q t) (gp : PG h q N n f) (hv : VK n (xC n f)) (hb : b < n) (hi : i < b) : Call sc n_X1_canPass [aD p, aI (nI i), aI (nI b)] h = some (.inl (some (aI (zI (cpX (xC n f) i (b - i) (i + 1))))), h) := by
  rw [c0_X1_canPass, e_X1_canPass_0, nI_add]
  exact l_X1_canPass g gp hv (by omega) hb (b - i) (i + 1) (by omega)
theorem l_X1_findBefore (g : FI h p q t) (gp : PG h q N n f) (hv : VK n (xC n f)) (hb : b < n) : ∀ j, j ≤ b → ∀ v3, Run sc n_X1_findBefore 17 [aD p, aI (nI b), aI (nI j - nI 1), v3] none [] h = some (.inl (some (aI (enc (bfX (xC n f) n b j)))), h) := by
  have hn := gp.n60
  intro j
  induction j with
  | zero =>
    intro _ v3
    rw [e_X1_findBefore_17, if_pos (by decide), e_X1_findBefore_94]
    rfl
  | succ j ih =>
    intro hj v3
    have hjn : j < n := by omega
    have k1 := (hv j hjn).2
    have b1 := fun r => bI_t (acOK k1 (show 1 ≤ 12 ∧ 12 < 13 by omega)) r
    have e1 := c_X6_kind (sc := sc) gp hv hjn
    have e2 := c_X6_isSlot (sc := sc) gp hv (show j ≤ n by omega)
    have e3 := c_X4_canFill (sc := sc) (h := h) k1
    have e4 := c_X1_canPass (sc := sc) g gp hv hb (show j < b by omega)
    have e5 := c_X6_branchesTo (sc := sc) gp hv (nI j)
    have h2 := ih (by omega) (aC (kx (xC n f) j + 1))
    have t75 : Run sc n_X1_findBefore 75 [aD p, aI (nI b), aI (nI j), aC (kx (xC n f) j + 1)] none [] h = some (.inl (some (aI (enc (if 0 < toX n (xC n f) (nI j) then none else bfX (xC n f) n b j)))), h) := by
      have h3 := nI_le0 (show toX n (xC n f) (nI j) < 2 ^ 31 by have := to_le n (xC n f) (nI j); omega)
      simp only [e_X1_findBefore_75, e_X1_findBefore_79, e_X1_findBefore_83, g.f0, bI_t gp.ok, e5, bO_some, bF_I, bF_D, bF_C, bC_v, pk_mul, nI_add, Option.toList, List.cons_append, List.nil_append, h3]
      by_cases hh : 0 < toX n (xC n f) (nI j)
      · simp only [hh, not_true_eq_false, if_false, if_true, e_X1_findBefore_86]
        rfl
      · simp only [hh, not_false_eq_true, if_false, if_true, e_X1_findBefore_88, dI_n]
        exact h2
    have t57 : Run sc n_X1_findBefore 57 [aD p, aI (nI b), aI (nI j), aC (kx (xC n f) j + 1)] none [] h = some (.inl (some (aI (enc (if (cfK (kx (xC n f) j) && cpX (xC n f) j (b - j) (j + 1)) = true then some j else if 0 < toX n (xC n f) (nI j) then none else bfX (xC n f) n b j)))), h) := by
      simp only [e_X1_findBefore_57, bI_t (kok k1), e3, e_X1_findBefore_61, bO_some, bF_I, bF_D, bF_C, bC_v, pk_mul, nI_add, Option.toList, List.cons_append, List.nil_append]
      by_cases hf : cfK (kx (xC n f) j) = true
      · simp only [hf, e_X1_findBefore_64, bI_t g.ok, e4, e_X1_findBefore_70, bO_some, bF_I, bF_D, bF_C, bC_v, pk_mul, nI_add, Option.toList, List.cons_append, List.nil_append, zI_0, if_true, if_false, eq_self, not_true_eq_false, not_false_eq_true, reduceCtorEq, Bool.true_and]
        by_cases hc : cpX (xC n f) j (b - j) (j + 1) = true
        · simp only [hc, e_X1_findBefore_73, zI_0, if_true, if_false, eq_self, not_true_eq_false, not_false_eq_true, reduceCtorEq]
          rfl
        · rw [Bool.not_eq_true] at hc
          simp only [hc, zI_0, if_true, if_false, eq_self, not_true_eq_false, not_false_eq_true, reduceCtorEq]
          exact t75
      · rw [Bool.not_eq_true] at hf
        simp only [hf, zI_0, if_true, if_false, eq_self, not_true_eq_false, not_false_eq_true, reduceCtorEq, Bool.false_and]
        exact t75
    have hbf : bfX (xC n f) n b (j + 1) = (if (kBr (kx (xC n f) j) || (Nat.beq (kx (xC n f) j) 11 || slX (xC n f) j)) = true then none else (if (cfK (kx (xC n f) j) && cpX (xC n f) j (b - j) (j + 1)) = true then some j else if 0 < toX n (xC n f) (nI j) then none else bfX (xC n f) n b j)) := rfl
    rw [hbf, dI_s, e_X1_findBefore_17, if_neg (nI_pos (show j < 2 ^ 31 by omega))]
    simp only [e_X1_findBefore_21, e_X1_findBefore_25, e_X1_findBefore_29, e_X1_findBefore_34, g.f0, bI_t gp.ok, e1, kf_br k1, bO_some, bF_I, bF_D, bF_C, bC_v, pk_mul, nI_add, Option.toList, List.cons_append, List.nil_append]
    by_cases hk : kBr (kx (xC n f) j) = true
    · simp only [hk, e_X1_findBefore_55, zI_0, if_true, if_false, eq_self, not_true_eq_false, not_false_eq_true, reduceCtorEq, Bool.true_or]
      rfl
    · rw [Bool.not_eq_true] at hk
      simp only [hk, e_X1_findBefore_37, b1, zI_0, if_true, if_false, eq_self, not_true_eq_false, not_false_eq_true, reduceCtorEq, Bool.false_or]
      by_cases h11 : kx (xC n f) j = 11
      · rw [if_pos (show kx (xC n f) j + 1 = 12 by omega), e_X1_findBefore_55, h11]
        rfl
      · rw [if_neg (show ¬ kx (xC n f) j + 1 = 12 by omega), beq_f h11, Bool.false_or]
        simp only [e_X1_findBefore_44, e_X1_findBefore_48, e_X1_findBefore_52, g.f0, bI_t gp.ok, e2, bO_some, bF_I, bF_D, bF_C, bC_v, pk_mul, nI_add, Option.toList, List.cons_append, List.nil_append]
        by_cases hs : slX (xC n f) j = true
        · simp only [hs, e_X1_findBefore_55, zI_0, if_true, if_false, eq_self, not_true_eq_false, not_false_eq_true, reduceCtorEq]
          rfl
        · rw [Bool.not_eq_true] at hs
          simp only [hs, zI_0, if_true, if_false, eq_self, not_true_eq_false, not_false_eq_true, reduceCtorEq]
          exact t57
theorem c_X1_findBefore (g : FI h p q t) (gp : PG h q N n f) (hv : VK n (xC n f)) (hb : b < n) : Call sc n_X1_findBefore [aD p, aI (nI b)] h = some (.inl (some (aI (enc (btX (xC n f) n b)))), h) := by
  have hn := gp.n60
  have h3 := nI_le0 (show toX n (xC n f) (nI b) < 2 ^ 31 by have := to_le n (xC n f) (nI b); omega)
  have e5 := c_X6_branchesTo (sc := sc) gp hv (nI b)
  simp only [c0_X1_findBefore, e_X1_findBefore_0, e_X1_findBefore_4, e_X1_findBefore_8, g.f0, bI_t gp.ok, e5, bO_some, bF_I, bF_D, bF_C, bC_v, pk_mul, nI_add, Option.toList, List.cons_append, List.nil_append, h3]
  unfold btX
  by_cases hh : 0 < toX n (xC n f) (nI b)
  · simp only [hh, not_true_eq_false, if_false, if_true, e_X1_findBefore_11]
    rfl
  · simp only [hh, not_false_eq_true, if_false, if_true, e_X1_findBefore_13]
    exact l_X1_findBefore g gp hv hb b (Nat.le_refl b) aU
theorem has_nI {m : Nat} (hm : m < 2 ^ 31) (hn : n < 2 ^ 31) : decide (¬ nI m < 0 ∧ ¬ nI n ≤ nI m) = decide (m < n) := by
  by_cases hh : m < n
  · rw [decide_eq_true hh, decide_eq_true ⟨nI_pos hm, nI_ge hh hn⟩]
  · rw [decide_eq_false hh, decide_eq_false (fun z => z.2 (nI_le (by omega) hm))]
theorem c_X1_findAtTarget (g : FI h p q t) (gp : PG h q N n f) (hv : VK n (xC n f)) (ht : VT n (xC n f)) (hb : b < n) (hk : kBr (kx (xC n f) b) = true) : Call sc n_X1_findAtTarget [aD p, aI (nI b)] h = some (.inl (some (aI (enc (atX (xC n f) n b)))), h) := by
  have hn := gp.n60
  obtain ⟨t1, t2⟩ := lt_at ht hb hk (by omega)
  have e1 := c_X6_target (sc := sc) gp hb
  rw [t1] at e1
  have e2 := c_X6_has (sc := sc) gp (nI (ltX (xC n f) b))
  rw [has_nI (by omega) (by omega)] at e2
  simp only [c0_X1_findAtTarget, e_X1_findAtTarget_0, e_X1_findAtTarget_4, e_X1_findAtTarget_8, e_X1_findAtTarget_13, e_X1_findAtTarget_17, g.f0, bI_t gp.ok, e1, e2, bO_some, bF_I, bF_D, bF_C, bC_v, pk_mul, nI_add, Option.toList, List.cons_append, List.nil_append]
  unfold atX
  by_cases h1 : ltX (xC n f) b < n
  · have k1 := (hv _ h1).2
    have e3 := c_X6_kind (sc := sc) gp hv h1
    have e4 := c_X4_canFill (sc := sc) (h := h) k1
    simp only [h1, decide_true, e_X1_findAtTarget_20, e_X1_findAtTarget_24, e_X1_findAtTarget_28, e_X1_findAtTarget_31, g.f0, bI_t gp.ok, bI_t (kok k1), e3, e4, bO_some, bF_I, bF_D, bF_C, bC_v, pk_mul, nI_add, Option.toList, List.cons_append, List.nil_append, zI_0, if_true, if_false, eq_self, not_true_eq_false, not_false_eq_true, reduceCtorEq, true_and]
    by_cases h2 : cfK (kx (xC n f) (ltX (xC n f) b)) = true
    · simp only [h2, e_X1_findAtTarget_34, e_X1_findAtTarget_39, zI_0, if_true, if_false, eq_self, not_true_eq_false, not_false_eq_true, reduceCtorEq]
      rfl
    · have h2' := h2
      rw [Bool.not_eq_true] at h2'
      simp only [h2', e_X1_findAtTarget_38, e_X1_findAtTarget_39, zI_0, if_true, if_false, eq_self, not_true_eq_false, not_false_eq_true, reduceCtorEq]
      rfl
  · simp only [h1, decide_false, e_X1_findAtTarget_38, e_X1_findAtTarget_39, zI_0, if_true, if_false, eq_self, not_true_eq_false, not_false_eq_true, reduceCtorEq, false_and]
    rfl
theorem FI.fl (g : FI h p q t) (hp : t + 4 < p) : FI (fset h t l r w) p q t := by
  unfold FI
  rw [fset_ne (by omega) (by omega) (by omega)]
  exact g
theorem c_X1_findInFallThrough (g : FI h p q t) (hp : t + 4 < p) (gf : FL h t q l r w s) (gp : PG h q N n f) (hd : q + 1 < t) (hv : VK n (xC n f)) (ht : VT n (xC n f)) (hb9 : VB n (xC n f)) (hb : b < n) : ∃ l' r' w', Call sc n_X1_findInFallThrough [aD p, aI (nI b)] h = some (.inl (some (aI (enc (ftX (xC n f) n b)))), fset h t l' r' w') := by
  have hn := gp.n60
  have k0 := (hv b hb).2
  have e1 := c_X6_kind (sc := sc) gp hv hb
  have e2 := c_X6_has (sc := sc) gp (nI (b + 2))
  rw [has_nI (by omega) (by omega)] at e2
  simp only [c0_X1_findInFallThrough, e_X1_findInFallThrough_0, e_X1_findInFallThrough_8, e_X1_findInFallThrough_12, e_X1_findInFallThrough_15, g.f0, bI_t gp.ok, e1, kf_co k0, bO_some, bF_I, bF_D, bF_C, bC_v, pk_mul, nI_add, Option.toList, List.cons_append, List.nil_append]
  unfold ftX
  by_cases hc : kCo (kx (xC n f) b) = true
  · simp only [hc, e_X1_findInFallThrough_18, e_X1_findInFallThrough_22, e_X1_findInFallThrough_26, g.f0, bI_t gp.ok, e2, bO_some, bF_I, bF_D, bF_C, bC_v, pk_mul, nI_add, Option.toList, List.cons_append, List.nil_append, zI_0, if_true, if_false, eq_self, not_true_eq_false, not_false_eq_true, reduceCtorEq, true_and]
    by_cases h1 : b + 2 < n
    · have k1 := (hv _ h1).2
      have e3 := c_X6_kind (sc := sc) gp hv h1
      have e4 := c_X4_canFill (sc := sc) (h := h) k1
      have e5 := c_X6_branchesTo (sc := sc) gp hv (nI (b + 2))
      have b7 := fun r => bI_t (acOK k1 (show 1 ≤ 7 ∧ 7 < 13 by omega)) r
      have b8 := fun r => bI_t (acOK k1 (show 1 ≤ 8 ∧ 8 < 13 by omega)) r
      have h3 := nI_le0 (show toX n (xC n f) (nI (b + 2)) < 2 ^ 31 by have := to_le n (xC n f) (nI (b + 2)); omega)
      have t72 : ∀ y : Option Nat, y = none → ∃ l' r' w', Run sc n_X1_findInFallThrough 72 [aD p, aI (nI b), aI (nI (b + 2)), aC (kx (xC n f) (b + 2) + 1), aU] none [] h = some (.inl (some (aI (enc y))), fset h t l' r' w') := by
        intro y hy
        subst hy
        refine ⟨l, r, w, ?_⟩
        rw [e_X1_findInFallThrough_72, gf.self]
        rfl
      simp only [h1, decide_true, e_X1_findInFallThrough_31, e_X1_findInFallThrough_35, e_X1_findInFallThrough_39, e_X1_findInFallThrough_44, g.f0, bI_t gp.ok, bI_t (kok k1), e3, e4, bO_some, bF_I, bF_D, bF_C, bC_v, pk_mul, nI_add, Option.toList, List.cons_append, List.nil_append, zI_0, if_true, if_false, eq_self, not_true_eq_false, not_false_eq_true, reduceCtorEq]
      by_cases h2 : cfK (kx (xC n f) (b + 2)) = true
      · simp only [h2, e_X1_findInFallThrough_47, b7, zI_0, if_true, if_false, eq_self, not_true_eq_false, not_false_eq_true, reduceCtorEq, true_and]
        by_cases h6 : kx (xC n f) (b + 2) = 6
        · rw [if_pos (show kx (xC n f) (b + 2) + 1 = 7 by omega)]
          exact t72 _ (if_pos (fun z => z.1 h6))
        · rw [if_neg (show ¬ kx (xC n f) (b + 2) + 1 = 7 by omega), e_X1_findInFallThrough_54, b8]
          by_cases h7 : kx (xC n f) (b + 2) = 7
          · rw [if_pos (show kx (xC n f) (b + 2) + 1 = 8 by omega)]
            exact t72 _ (if_pos (fun z => z.2.1 h7))
          · rw [if_neg (show ¬ kx (xC n f) (b + 2) + 1 = 8 by omega)]
            simp only [e_X1_findInFallThrough_61, e_X1_findInFallThrough_65, e_X1_findInFallThrough_69, g.f0, bI_t gp.ok, e5, bO_some, bF_I, bF_D, bF_C, bC_v, pk_mul, nI_add, Option.toList, List.cons_append, List.nil_append, h3]
            by_cases h8 : 0 < toX n (xC n f) (nI (b + 2))
            · rw [if_neg (fun z => z h8)]
              exact t72 _ (if_pos (fun z => z.2.2 h8))
            · obtain ⟨t1, t2⟩ := lt_at ht hb (kCo_kBr hc) (by omega)
              have e6 := c_X6_target (sc := sc) gp hb
              rw [t1] at e6
              obtain ⟨l', r', w', e7⟩ := c_X2_liveBefore (sc := sc) gf gp hd hv ht hb9 t2
              have g2 := g.fl (l := l') (r := r') (w := w') hp
              have gp2 := gp.fl (l := l') (r := r') (w := w') hd
              have e8 := c_X6_writes (sc := sc) gp2 hv h1
              refine ⟨l', r', w', ?_⟩
              rw [if_pos h8, if_neg (show ¬ ¬ (¬ kx (xC n f) (b + 2) = 6 ∧ ¬ kx (xC n f) (b + 2) = 7 ∧ ¬ 0 < toX n (xC n f) (nI (b + 2))) from fun z => z ⟨h6, h7, h8⟩)]
              simp only [e_X1_findInFallThrough_74, e_X1_findInFallThrough_78, e_X1_findInFallThrough_82, e_X1_findInFallThrough_86, e_X1_findInFallThrough_89, e_X1_findInFallThrough_95, e_X1_findInFallThrough_99, g.f0, g.f1, g2.f0, bI_t gp.ok, bI_t gf.ok, bI_t gp2.ok, e6, e7, e8, bO_some, bF_I, bF_D, bF_C, bC_v, pk_mul, nI_add, Option.toList, List.cons_append, List.nil_append]
              by_cases h9 : (wrX (xC n f) (b + 2) &&& lvAt (xC n f) n (ltX (xC n f) b)) = 0
              · simp only [h9, e_X1_findInFallThrough_105, e_X1_findInFallThrough_110, zI_0, if_true, if_false, eq_self, not_true_eq_false, not_false_eq_true]
                rfl
              · simp only [h9, e_X1_findInFallThrough_109, e_X1_findInFallThrough_110, zI_0, if_true, if_false, eq_self, not_true_eq_false, not_false_eq_true]
                rfl
      · have h2' := h2
        rw [Bool.not_eq_true] at h2'
        simp only [h2', zI_0, if_true, if_false, eq_self, not_true_eq_false, not_false_eq_true, reduceCtorEq]
        exact t72 _ (if_pos (fun z => by cases z.1))
    · refine ⟨l, r, w, ?_⟩
      simp only [h1, decide_false, e_X1_findInFallThrough_29, zI_0, if_true, if_false, eq_self, not_true_eq_false, not_false_eq_true, reduceCtorEq, gf.self]
      rfl
  · have hc' := hc
    rw [Bool.not_eq_true] at hc'
    refine ⟨l, r, w, ?_⟩
    simp only [hc', e_X1_findInFallThrough_29, zI_0, if_true, if_false, eq_self, not_true_eq_false, not_false_eq_true, reduceCtorEq, gf.self, false_and]
    rfl
theorem fd_0 (X : Nat → Nat → Int32) (n b : Nat) : fdX X n b 0 = btX X n b := if_pos rfl
theorem fd_1 (X : Nat → Nat → Int32) (n b : Nat) : fdX X n b 1 = atX X n b := by
  unfold fdX
  rw [if_neg (by omega), if_pos rfl]
theorem fd_2 (X : Nat → Nat → Int32) (n b : Nat) : fdX X n b 2 = ftX X n b := by
  unfold fdX
  rw [if_neg (by omega), if_neg (by omega)]
theorem sw_0 : (if (nI 0).toInt < 0 ∨ 2 < (nI 0).toInt then 46 else ([28, 34, 40] : List Nat).getD ((nI 0).toInt - 0).toNat 0) = 28 := by decide
theorem sw_1 : (if (nI 1).toInt < 0 ∨ 2 < (nI 1).toInt then 46 else ([28, 34, 40] : List Nat).getD ((nI 1).toInt - 0).toNat 0) = 34 := by decide
theorem sw_2 : (if (nI 2).toInt < 0 ∨ 2 < (nI 2).toInt then 46 else ([28, 34, 40] : List Nat).getD ((nI 2).toInt - 0).toNat 0) = 40 := by decide
theorem c_find_0 (g : FI h p q t) (gp : PG h q N n f) (hv : VK n (xC n f)) (hb : b < n) : Call sc n_X1_find [aD p, aI (nI b), aI (nI 0)] h = some (.inl (some (aI (enc (btX (xC n f) n b)))), h) := by
  have e1 := c_X1_findBefore (sc := sc) g gp hv hb
  rw [c0_X1_find, e_X1_find_0, sw_0]
  simp only [e_X1_find_28, e_X1_find_33, bI_t g.ok, e1, bO_some, bF_I, bF_D, bF_C, bC_v, pk_mul, nI_add, Option.toList, List.cons_append, List.nil_append]
theorem c_find_1 (g : FI h p q t) (gp : PG h q N n f) (hv : VK n (xC n f)) (ht : VT n (xC n f)) (hb : b < n) (hk : kBr (kx (xC n f) b) = true) : Call sc n_X1_find [aD p, aI (nI b), aI (nI 1)] h = some (.inl (some (aI (enc (atX (xC n f) n b)))), h) := by
  have e1 := c_X1_findAtTarget (sc := sc) g gp hv ht hb hk
  rw [c0_X1_find, e_X1_find_0, sw_1]
  simp only [e_X1_find_34, e_X1_find_39, bI_t g.ok, e1, bO_some, bF_I, bF_D, bF_C, bC_v, pk_mul, nI_add, Option.toList, List.cons_append, List.nil_append]
theorem c_find_2 (g : FI h p q t) (hp : t + 4 < p) (gf : FL h t q l r w s) (gp : PG h q N n f) (hd : q + 1 < t) (hv : VK n (xC n f)) (ht : VT n (xC n f)) (hb9 : VB n (xC n f)) (hb : b < n) : ∃ l' r' w', Call sc n_X1_find [aD p, aI (nI b), aI (nI 2)] h = some (.inl (some (aI (enc (ftX (xC n f) n b)))), fset h t l' r' w') := by
  obtain ⟨l', r', w', e1⟩ := c_X1_findInFallThrough (sc := sc) g hp gf gp hd hv ht hb9 hb
  refine ⟨l', r', w', ?_⟩
  rw [c0_X1_find, e_X1_find_0, sw_2]
  simp only [e_X1_find_40, e_X1_find_45, bI_t g.ok, e1, bO_some, bF_I, bF_D, bF_C, bC_v, pk_mul, nI_add, Option.toList, List.cons_append, List.nil_append]
theorem c_X1_find (g : FI h p q t) (hp : t + 4 < p) (gf : FL h t q l r w s) (gp : PG h q N n f) (hd : q + 1 < t) (hv : VK n (xC n f)) (ht : VT n (xC n f)) (hb9 : VB n (xC n f)) (hb : b < n) (hk : kBr (kx (xC n f) b) = true) {way : Nat} (hw : way < 3) : ∃ l' r' w', Call sc n_X1_find [aD p, aI (nI b), aI (nI way)] h = some (.inl (some (aI (enc (fdX (xC n f) n b way)))), fset h t l' r' w') := by
  have h3 : way = 0 ∨ way = 1 ∨ way = 2 := by omega
  rcases h3 with rfl | rfl | rfl
  · refine ⟨l, r, w, ?_⟩
    rw [gf.self, fd_0]
    exact c_find_0 g gp hv hb
  · refine ⟨l, r, w, ?_⟩
    rw [gf.self, fd_1]
    exact c_find_1 g gp hv ht hb hk
  · rw [fd_2]
    exact c_find_2 g hp gf gp hd hv ht hb9 hb
end
