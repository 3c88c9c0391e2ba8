/-! PURE 53: the reference: counts -/
theorem cnt_ag : ∀ (n : Nat) (P Q : Nat → Bool), (∀ i, i < n → P i = Q i) → cnt n P = cnt n Q := by
  intro n P Q
  induction n with
  | zero => exact fun _ => rfl
  | succ n ih =>
    intro hh
    simp only [cnt, ih (fun i hi => hh i (by omega)), hh n (by omega)]
theorem cnt_sh : ∀ (n : Nat) (P : Nat → Bool), P 0 = false → cnt (n + 1) P = cnt n (fun i => P (i + 1)) := by
  intro n P h0
  induction n with
  | zero => simp [cnt, h0]
  | succ n ih =>
    rw [cnt, ih]
    rfl
theorem sl_0 (X : Nat → Nat → Int32) : slX X 0 = false := by
  unfold slX
  rw [decide_eq_false (by omega), Bool.false_and]
def snX (X : Nat → Nat → Int32) (k : Nat) : Bool := slX X k && Nat.beq (kx X k) 0
theorem sn_0 (X : Nat → Nat → Int32) : snX X 0 = false := by
  unfold snX
  rw [sl_0]
  exact Bool.false_and _
theorem sn_s (X : Nat → Nat → Int32) (i : Nat) : snX X (i + 1) = esX X i := by
  unfold snX esX slX
  rw [decide_eq_true (Nat.succ_pos i), Bool.true_and, Nat.add_sub_cancel]
theorem es_end {m : Nat} {X : Nat → Nat → Int32} (hb : VB (m + 1) X) : esX X m = false := by
  unfold esX
  cases hk : kBr (kx X m)
  · exact Bool.false_and _
  · have h5 := hb m (Nat.lt_succ_self m) hk
    exact absurd h5 (Nat.lt_irrefl _)
/-- slots that hold nop are branches with an empty slot -/
theorem cnt_es {n : Nat} {X : Nat → Nat → Int32} (hb : VB n X) : cnt n (snX X) = cnt n (fun k => esX X k) := by
  cases n with
  | zero => simp only [cnt]
  | succ m =>
    have h1 := es_end hb
    have h2 : cnt (m + 1) (fun k => esX X k) = cnt m (fun k => esX X k) := by
      simp only [cnt, h1, reduceCtorEq, if_false, Nat.add_zero]
    rw [h2, cnt_sh m (snX X) (sn_0 X)]
    exact cnt_ag m _ _ (fun i _ => sn_s X i)
/-- branches and slots are as many -/
theorem cnt_sl {n : Nat} {X : Nat → Nat → Int32} (hb : VB n X) : cnt n (fun k => slX X k) = cnt n (fun k => kBr (kx X k)) := by
  cases n with
  | zero => rfl
  | succ m =>
    rw [cnt_sh m _ (sl_0 X)]
    have h1 : kBr (kx X m) = false := by
      cases hk : kBr (kx X m)
      · rfl
      · have := hb m (by omega) hk
        omega
    simp only [cnt, h1, reduceCtorEq, if_false, Nat.add_zero]
    refine cnt_ag m _ _ (fun i hi => ?_)
    show slX X (i + 1) = kBr (kx X i)
    unfold slX
    rw [decide_eq_true (Nat.succ_pos i), Bool.true_and, Nat.add_sub_cancel]
theorem cnt_split : ∀ (n : Nat) (P Q : Nat → Bool), cnt n (fun k => P k && Q k) + cnt n (fun k => P k && !Q k) = cnt n P := by
  intro n P Q
  induction n with
  | zero => rfl
  | succ n ih =>
    simp only [cnt]
    by_cases hp : P n = true <;> by_cases hq : Q n = true <;> simp [hp, hq] <;> omega
theorem cnt_fd {n : Nat} {X : Nat → Nat → Int32} (hb : VB n X) : cnt n (fun k => slX X k && !Nat.beq (kx X k) 0) = cnt n (fun k => kBr (kx X k)) - cnt n (fun k => esX X k) := by
  have h1 := cnt_split n (fun k => slX X k) (fun k => Nat.beq (kx X k) 0)
  have h4 : cnt n (fun k => slX X k && Nat.beq (kx X k) 0) = cnt n (fun k => esX X k) := cnt_es hb
  rw [h4] at h1
  have h2 := cnt_sl hb
  omega
def ctP (n : Nat) (X : Nat → Nat → Int32) (w : Nat) : Nat → Bool := if w = 0 then fun k => kBr (kx X k) else if w = 1 then fun k => slX X k && Nat.beq (kx X k) 0 else if w = 2 then fun k => decide (X k 4 = nI 1) else if w = 3 then fun k => Nat.beq (kx X k) 0 else fun k => !slX X k && !rsB X n n k
section
variable {sc : SC} {h : AH} {φ : Nat → Int32} {ρ : Nat → Nat → Int32} {sn n i w : Nat} {x y : Int32}
theorem l_mcount (h0 : ρ 53 0 = nI n) (hn : n ≤ 60) (hw : WF n (xM n (ρ 53))) (hw5 : w < 5) (hm : ∀ i, i ≤ n → ρ 57 i = zI (rsB (xM n (ρ 53)) n n i)) : ∀ d i, i + d = n → ∀ v4 v5, Run sc n_X10_count 28 [aD 51, aI (nI w), aI (nI (cnt i (ctP n (xM n (ρ 53)) w))), aI (nI i), v4, v5] none [] (rh h φ ρ) = some (.inl (some (aI (nI (cnt n (ctP n (xM n (ρ 53)) w))))), rh h φ ρ) := by
  have o := FO_r (h := h) (φ := φ) h0 hn
  intro d
  induction d with
  | zero =>
    intro i hi v4 v5
    have : i = n := by omega
    subst this
    simp only [e_X10_count_28, e_X10_count_33, e_X10_count_166, rf_0, rf_1, rf_2, rf_3, rf_4, rf_5, rf_6, rf_7, rf_8, rf_9, rf_10, rf_11, rf_12, rf_13, rf_14, rf_15, rf_16, rf_17, rf_18, rf_19, rf_20, rf_21, rf_22, rf_23, rf_24, rf_25, rf_26, rf_27, rf_28, rf_29, rf_30, rf_31, rf_32, rf_33, rf_34, rp_0, rp_2, rp_5, rp_7, rp_8, rp_9, rp_10, rp_12, rp_16, rp_20, rp_21, rp_22, rp_25, rp_27, rp_30, rp_32, bI_r, bO_some, bF_I, bF_D, bF_C, bC_v, pk_mul, nI_add, Option.toList, List.cons_append, List.nil_append, upd_eq, upr_eq, Nat.reduceEqDiff, reduceIte, c_entryMany o, nI_le (Nat.le_refl i) (show i < 2 ^ 31 by omega), if_true]
  | succ d ih =>
    intro i hi v4 v5
    have hin : i < n := by omega
    have h1 : ¬ nI n ≤ nI i := nI_ge (by omega) (by omega)
    have k1 := (hw.1 i hin).2
    have e0 := c_atK (sc := sc) o hw.1 hin
    have e4 := c_at (sc := sc) o hin (show 4 < 5 by omega)
    have e3 := c_X10_isSlot (sc := sc) o hw.1 (show i ≤ n by omega)
    have em := rl_58 (sc := sc) (h := h) (φ := φ) (ρ := ρ) (show i < 62 by omega)
    rw [hm i (by omega)] at em
    have hz : ∀ {a : Nat}, a < 2 ^ 31 → ((nI a = 0) = (a = 0)) := fun ha => eqI (b := 0) ha (by omega)
    have fin : ∀ v5, Run sc n_X10_count 145 [aD 51, aI (nI w), aI (nI (cnt i (ctP n (xM n (ρ 53)) w))), aI (nI i), aI (nI (kx (xM n (ρ 53)) i)), v5] none [aI (zI (ctP n (xM n (ρ 53)) w i))] (rh h φ ρ) = some (.inl (some (aI (nI (cnt n (ctP n (xM n (ρ 53)) w))))), rh h φ ρ) := by
      intro v5
      have q1 := fun v5 => ih (i + 1) (by omega) (aI (nI (kx (xM n (ρ 53)) i))) v5
      cases hc : ctP n (xM n (ρ 53)) w i
      · simp only [cnt, hc, reduceCtorEq, if_false, Nat.add_zero] at q1
        simp only [e_X10_count_145, e_X10_count_157, e_X10_count_158, bO_some, bF_I, bF_D, bF_C, bC_v, pk_mul, nI_add, Option.toList, List.cons_append, List.nil_append, zI_0, if_true, if_false, eq_self, not_true_eq_false, not_false_eq_true, Nat.add_zero]
        exact q1 _
      · simp only [cnt, hc, if_true] at q1
        simp only [e_X10_count_145, e_X10_count_153, e_X10_count_158, bO_some, bF_I, bF_D, bF_C, bC_v, pk_mul, nI_add, Option.toList, List.cons_append, List.nil_append, zI_0, if_true, if_false, eq_self, not_true_eq_false, not_false_eq_true, reduceCtorEq]
        exact q1 _
    simp only [e_X10_count_28, e_X10_count_33, e_X10_count_36, e_X10_count_42, rf_0, rf_1, rf_2, rf_3, rf_4, rf_5, rf_6, rf_7, rf_8, rf_9, rf_10, rf_11, rf_12, rf_13, rf_14, rf_15, rf_16, rf_17, rf_18, rf_19, rf_20, rf_21, rf_22, rf_23, rf_24, rf_25, rf_26, rf_27, rf_28, rf_29, rf_30, rf_31, rf_32, rf_33, rf_34, rp_0, rp_2, rp_5, rp_7, rp_8, rp_9, rp_10, rp_12, rp_16, rp_20, rp_21, rp_22, rp_25, rp_27, rp_30, rp_32, bI_r, bO_some, bF_I, bF_D, bF_C, bC_v, pk_mul, nI_add, Option.toList, List.cons_append, List.nil_append, upd_eq, upr_eq, Nat.reduceEqDiff, reduceIte, c_entryMany o, h1, if_false, e0, hz (show w < 2 ^ 31 by omega)]
    by_cases w0 : w = 0
    · subst w0
      have hc : ctP n (xM n (ρ 53)) 0 i = kBr (kx (xM n (ρ 53)) i) := rfl
      rw [hc] at fin
      simp only [e_X10_count_48, e_X10_count_53, c_isBranch k1, bO_some, bF_I, bF_D, bF_C, bC_v, pk_mul, nI_add, Option.toList, List.cons_append, List.nil_append, zI_0, if_true, if_false, eq_self, not_true_eq_false, not_false_eq_true]
      exact fin _
    · simp only [w0, e_X10_count_56, eqI (show w < 2 ^ 31 by omega) (show 1 < 2 ^ 31 by omega), zI_0, if_true, if_false, eq_self, not_true_eq_false, not_false_eq_true]
      by_cases w1 : w = 1
      · subst w1
        have hc : ctP n (xM n (ρ 53)) 1 i = (slX (xM n (ρ 53)) i && Nat.beq (kx (xM n (ρ 53)) i) 0) := rfl
        rw [hc] at fin
        simp only [e_X10_count_61, e_X10_count_66, rf_0, rf_1, rf_2, rf_3, rf_4, rf_5, rf_6, rf_7, rf_8, rf_9, rf_10, rf_11, rf_12, rf_13, rf_14, rf_15, rf_16, rf_17, rf_18, rf_19, rf_20, rf_21, rf_22, rf_23, rf_24, rf_25, rf_26, rf_27, rf_28, rf_29, rf_30, rf_31, rf_32, rf_33, rf_34, rp_0, rp_2, rp_5, rp_7, rp_8, rp_9, rp_10, rp_12, rp_16, rp_20, rp_21, rp_22, rp_25, rp_27, rp_30, rp_32, bI_r, bO_some, bF_I, bF_D, bF_C, bC_v, pk_mul, nI_add, Option.toList, List.cons_append, List.nil_append, upd_eq, upr_eq, Nat.reduceEqDiff, reduceIte, e3, zI_0, if_true, if_false, eq_self, not_true_eq_false, not_false_eq_true]
        cases hs : slX (xM n (ρ 53)) i
        · rw [hs, Bool.false_and] at fin
          simp only [zI_0, if_true, if_false, eq_self, not_true_eq_false, not_false_eq_true, e_X10_count_78]
          exact fin _
        · rw [hs, Bool.true_and] at fin
          simp only [zI_0, if_true, if_false, eq_self, not_true_eq_false, not_false_eq_true, reduceCtorEq, e_X10_count_69, hz (show kx (xM n (ρ 53)) i < 2 ^ 31 by omega)]
          by_cases hk : kx (xM n (ρ 53)) i = 0
          · rw [hk] at fin ⊢
            simp only [zI_0, if_true, if_false, eq_self, not_true_eq_false, not_false_eq_true, e_X10_count_74]
            exact fin _
          · rw [beq_f hk] at fin
            simp only [hk, zI_0, if_true, if_false, eq_self, not_true_eq_false, not_false_eq_true, e_X10_count_78]
            exact fin _
      · simp only [w1, e_X10_count_82, eqI (show w < 2 ^ 31 by omega) (show 2 < 2 ^ 31 by omega), zI_0, if_true, if_false, eq_self, not_true_eq_false, not_false_eq_true]
        by_cases w2 : w = 2
        · subst w2
          have hc : ctP n (xM n (ρ 53)) 2 i = decide (xM n (ρ 53) i 4 = nI 1) := rfl
          rw [hc] at fin
          simp only [e_X10_count_87, e_X10_count_93, rf_0, rf_1, rf_2, rf_3, rf_4, rf_5, rf_6, rf_7, rf_8, rf_9, rf_10, rf_11, rf_12, rf_13, rf_14, rf_15, rf_16, rf_17, rf_18, rf_19, rf_20, rf_21, rf_22, rf_23, rf_24, rf_25, rf_26, rf_27, rf_28, rf_29, rf_30, rf_31, rf_32, rf_33, rf_34, rp_0, rp_2, rp_5, rp_7, rp_8, rp_9, rp_10, rp_12, rp_16, rp_20, rp_21, rp_22, rp_25, rp_27, rp_30, rp_32, bI_r, bO_some, bF_I, bF_D, bF_C, bC_v, pk_mul, nI_add, Option.toList, List.cons_append, List.nil_append, upd_eq, upr_eq, Nat.reduceEqDiff, reduceIte, e4, zI_0, if_true, if_false, eq_self, not_true_eq_false, not_false_eq_true]
          by_cases h4 : xM n (ρ 53) i 4 = nI 1
          · rw [decide_eq_true h4] at fin
            simp only [h4, zI_0, if_true, if_false, eq_self, not_true_eq_false, not_false_eq_true, e_X10_count_97]
            exact fin _
          · rw [decide_eq_false h4] at fin
            simp only [h4, zI_0, if_true, if_false, eq_self, not_true_eq_false, not_false_eq_true, e_X10_count_101]
            exact fin _
        · simp only [w2, e_X10_count_105, eqI (show w < 2 ^ 31 by omega) (show 3 < 2 ^ 31 by omega), zI_0, if_true, if_false, eq_self, not_true_eq_false, not_false_eq_true]
          by_cases w3 : w = 3
          · subst w3
            have hc : ctP n (xM n (ρ 53)) 3 i = Nat.beq (kx (xM n (ρ 53)) i) 0 := rfl
            rw [hc] at fin
            simp only [e_X10_count_110, hz (show kx (xM n (ρ 53)) i < 2 ^ 31 by omega), zI_0, if_true, if_false, eq_self, not_true_eq_false, not_false_eq_true]
            by_cases hk : kx (xM n (ρ 53)) i = 0
            · rw [hk] at fin ⊢
              simp only [zI_0, if_true, if_false, eq_self, not_true_eq_false, not_false_eq_true, e_X10_count_115]
              exact fin _
            · rw [beq_f hk] at fin
              simp only [hk, zI_0, if_true, if_false, eq_self, not_true_eq_false, not_false_eq_true, e_X10_count_119]
              exact fin _
          · have w4 : w = 4 := by omega
            subst w4
            have hc : ctP n (xM n (ρ 53)) 4 i = (!slX (xM n (ρ 53)) i && !rsB (xM n (ρ 53)) n n i) := rfl
            rw [hc] at fin
            simp only [w3, e_X10_count_123, e_X10_count_128, rf_0, rf_1, rf_2, rf_3, rf_4, rf_5, rf_6, rf_7, rf_8, rf_9, rf_10, rf_11, rf_12, rf_13, rf_14, rf_15, rf_16, rf_17, rf_18, rf_19, rf_20, rf_21, rf_22, rf_23, rf_24, rf_25, rf_26, rf_27, rf_28, rf_29, rf_30, rf_31, rf_32, rf_33, rf_34, rp_0, rp_2, rp_5, rp_7, rp_8, rp_9, rp_10, rp_12, rp_16, rp_20, rp_21, rp_22, rp_25, rp_27, rp_30, rp_32, bI_r, bO_some, bF_I, bF_D, bF_C, bC_v, pk_mul, nI_add, Option.toList, List.cons_append, List.nil_append, upd_eq, upr_eq, Nat.reduceEqDiff, reduceIte, e3, zI_0, if_true, if_false, eq_self, not_true_eq_false, not_false_eq_true]
            cases hs : slX (xM n (ρ 53)) i
            · rw [hs, Bool.not_false, Bool.true_and] at fin
              simp only [zI_0, if_true, if_false, eq_self, not_true_eq_false, not_false_eq_true, e_X10_count_131, e_X10_count_135, e_X10_count_137, rf_0, rf_1, rf_2, rf_3, rf_4, rf_5, rf_6, rf_7, rf_8, rf_9, rf_10, rf_11, rf_12, rf_13, rf_14, rf_15, rf_16, rf_17, rf_18, rf_19, rf_20, rf_21, rf_22, rf_23, rf_24, rf_25, rf_26, rf_27, rf_28, rf_29, rf_30, rf_31, rf_32, rf_33, rf_34, rp_0, rp_2, rp_5, rp_7, rp_8, rp_9, rp_10, rp_12, rp_16, rp_20, rp_21, rp_22, rp_25, rp_27, rp_30, rp_32, bI_r, bO_some, bF_I, bF_D, bF_C, bC_v, pk_mul, nI_add, Option.toList, List.cons_append, List.nil_append, upd_eq, upr_eq, Nat.reduceEqDiff, reduceIte, em]
              cases hr : rsB (xM n (ρ 53)) n n i
              · rw [hr] at fin
                simp only [zI_0, if_true, if_false, eq_self, not_true_eq_false, not_false_eq_true, e_X10_count_140]
                exact fin _
              · rw [hr] at fin
                simp only [zI_0, if_true, if_false, eq_self, not_true_eq_false, not_false_eq_true, reduceCtorEq, e_X10_count_144]
                exact fin _
            · rw [hs] at fin
              simp only [zI_0, if_true, if_false, eq_self, not_true_eq_false, not_false_eq_true, reduceCtorEq, e_X10_count_144]
              exact fin _
def cdCt (x : Int32) : Nat := if IR 5 x then 0 else 1
theorem r_count (h0 : ρ 53 0 = nI n) (hn : n ≤ 60) (hw : WF n (xM n (ρ 53))) (x : Int32) : ∃ b s', Call sc n_X10_count [aD 51, aI x] (rh h φ ρ) = some (.inl (some (aI b)), rh h (upd φ 0 (nI (cdCt x))) (upr ρ 57 s')) ∧ (cdCt x = 0 → b = nI (cnt n (ctP n (xM n (ρ 53)) x.toNatClampNeg))) := by
  unfold cdCt
  by_cases h1 : IR 5 x
  · rw [if_pos h1]
    obtain ⟨w, hw5, rfl⟩ := has_ex (by omega) h1
    obtain ⟨s', q1, q2⟩ := c_findReached (sc := sc) (MO_r (h := h) (φ := upd φ 0 (nI 0)) (ρ := ρ)) (FO_r (h := h) (φ := upd φ 0 (nI 0)) h0 hn) (by omega) (by omega) hw.1 hw.2.1 hw.2.2.1
    rw [bset_r] at q1
    have q3 := l_mcount (sc := sc) (h := h) (φ := upd φ 0 (nI 0)) (ρ := upr ρ 57 s') h0 hn hw hw5 q2 n 0 (by omega) aU aU
    refine ⟨nI (cnt n (ctP n (xM n (ρ 53)) w)), s', ?_, fun _ => by rw [nI_clamp (by omega)]⟩
    simp only [c0_X10_count, e_X10_count_0, e_X10_count_5, e_X10_count_11, e_X10_count_20, e_X10_count_24, rf_0, rf_1, rf_2, rf_3, rf_4, rf_5, rf_6, rf_7, rf_8, rf_9, rf_10, rf_11, rf_12, rf_13, rf_14, rf_15, rf_16, rf_17, rf_18, rf_19, rf_20, rf_21, rf_22, rf_23, rf_24, rf_25, rf_26, rf_27, rf_28, rf_29, rf_30, rf_31, rf_32, rf_33, rf_34, rp_0, rp_2, rp_5, rp_7, rp_8, rp_9, rp_10, rp_12, rp_16, rp_20, rp_21, rp_22, rp_25, rp_27, rp_30, rp_32, bI_r, bO_some, bF_I, bF_D, bF_C, bC_v, pk_mul, nI_add, Option.toList, List.cons_append, List.nil_append, upd_eq, upr_eq, Nat.reduceEqDiff, reduceIte, c_isIn, inR (show 4 + 1 < 2 ^ 30 by omega), decide_eq_true h1, zI_0, if_true, if_false, eq_self, not_true_eq_false, not_false_eq_true, reduceCtorEq, q1]
    exact q3
  · rw [if_neg h1]
    refine ⟨nI 0, ρ 57, ?_, fun z => by cases z⟩
    rw [upr_self]
    simp only [c0_X10_count, e_X10_count_0, e_X10_count_5, e_X10_count_11, e_X10_count_14, e_X10_count_19, rf_0, rf_1, rf_2, rf_3, rf_4, rf_5, rf_6, rf_7, rf_8, rf_9, rf_10, rf_11, rf_12, rf_13, rf_14, rf_15, rf_16, rf_17, rf_18, rf_19, rf_20, rf_21, rf_22, rf_23, rf_24, rf_25, rf_26, rf_27, rf_28, rf_29, rf_30, rf_31, rf_32, rf_33, rf_34, rp_0, rp_2, rp_5, rp_7, rp_8, rp_9, rp_10, rp_12, rp_16, rp_20, rp_21, rp_22, rp_25, rp_27, rp_30, rp_32, bI_r, bO_some, bF_I, bF_D, bF_C, bC_v, pk_mul, nI_add, Option.toList, List.cons_append, List.nil_append, upd_eq, upr_eq, Nat.reduceEqDiff, reduceIte, c_isIn, inR (show 4 + 1 < 2 ^ 30 by omega), decide_eq_false h1, zI_0, if_true, if_false, eq_self, not_true_eq_false, not_false_eq_true, fail_r, upd_upd]
end
