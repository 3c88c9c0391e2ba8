/-! PURE 63: the reference writes the form; small questions -/
section
variable {sc : SC} {h : AH} {φ : Nat → Int32} {ρ : Nat → Nat → Int32} {n i j k sn m : Nat} {x y a b c d e : Int32} {L : List Int32} {f ini : Nat → Int32} {v2 : AV}
theorem tr_ops (h0 : ρ 53 0 = nI n) (hn : n ≤ 60) (hw : WF n (xM n (ρ 53))) (hi : i < n) : ∀ d o, o + d = 3 → ∀ L f, TX f L → L.length + 4 * d ≤ 1200 → ∃ f', Run sc n_X10_write 71 [aD 51, aI (nI i), aI (nI o)] none [] (tSt h φ ρ L f) = Run sc n_X10_write 111 [aD 51, aI (nI i), aI (nI 3)] none [] (tSt h φ ρ (L ++ osT (xM n (ρ 53)) i d o) f') ∧ TX f' (L ++ osT (xM n (ρ 53)) i d o) := by
  have ok : ∀ L f r, bI (rOK sc (tSt h φ ρ L f) (aD 51) 12 = true) r = r := fun L f r => bI_r r
  have k1 := (hw.1 i hi).2
  have e0 : ∀ L f, Call sc n_X10_at [aD 51, aI (nI i), aI (nI 0)] (tSt h φ ρ L f) = some (.inl (some (aI (nI (kx (xM n (ρ 53)) i)))), tSt h φ ρ L f) := fun L f => c_atK (sc := sc) (FO_r (h := h) (φ := upd φ 16 (nI L.length)) (ρ := upr ρ 59 f) h0 hn) hw.1 hi
  intro d
  induction d with
  | zero =>
    intro o ho L f ht _
    have : o = 3 := by omega
    subst this
    refine ⟨f, ?_, ?_⟩
    · rw [e_X10_write_71, if_pos (nI_le (Nat.le_refl _) (by omega))]
      unfold osT
      rw [List.append_nil]
    · unfold osT
      rw [List.append_nil]
      exact ht
  | succ d ih =>
    intro o ho L f ht hl
    have h1 : ¬ nI 3 ≤ nI o := nI_ge (by omega) (by omega)
    have hbit := bit_k _ k1 o (by omega)
    have hos : osT (xM n (ρ 53)) i (d + 1) o = opT (xM n (ρ 53)) i o ++ osT (xM n (ρ 53)) i d (o + 1) := rfl
    have hop := opT_len hw hi (show o < 3 by omega)
    rw [hos, ← List.append_assoc, e_X10_write_71, if_neg h1]
    simp only [e_X10_write_76, e_X10_write_82, ok, e0, r_operandsOf k1, bO_some, bF_I, bF_D, bF_C, bC_v, pk_mul, nI_add, Option.toList, List.cons_append, List.nil_append]
    by_cases hd : (fL (kx (xM n (ρ 53)) i)).getD o 0 = nI 45
    · have hop2 : opT (xM n (ρ 53)) i o = [] := if_pos hd
      rw [hop2, List.append_nil]
      obtain ⟨f', q1, q2⟩ := ih (o + 1) (by omega) L f ht (by omega)
      refine ⟨f', ?_, q2⟩
      rw [← q1, e_X10_write_85, if_pos (fun z => hbit.mp z hd), e_X10_write_105, nI_add]
    · have hop2 : opT (xM n (ρ 53)) i o = nI 32 :: nmT (xM n (ρ 53) i (1 + o)) := if_neg hd
      have e1 : Call sc n_X10_at [aD 51, aI (nI i), aI (nI (1 + o))] (tSt h φ ρ L f) = some (.inl (some (aI (xM n (ρ 53) i (1 + o)))), tSt h φ ρ L f) := c_at (sc := sc) (FO_r (h := h) (φ := upd φ 16 (nI L.length)) (ρ := upr ρ 59 f) h0 hn) hi (show 1 + o < 5 by omega)
      have c3 := hw.c3 hi (show o < 3 by omega)
      obtain ⟨f1, q1, t1⟩ := tr_addNumber (sc := sc) (h := h) (φ := φ) (ρ := ρ) c3.1 c3.2 ht (by omega)
      rw [hop2] at hop ⊢
      obtain ⟨f', q2, t2⟩ := ih (o + 1) (by omega) _ f1 t1 (by rw [List.length_append]; omega)
      refine ⟨f', ?_, t2⟩
      rw [← q2, e_X10_write_85, if_neg (fun z => z (hbit.mpr hd))]
      simp only [e_X10_write_93, e_X10_write_102, e_X10_write_105, ok, e1, q1, bO_some, bF_I, bF_D, bF_C, bC_v, pk_mul, nI_add, Option.toList, List.cons_append, List.nil_append]
theorem tr_ins (h0 : ρ 53 0 = nI n) (hn : n ≤ 60) (hw : WF n (xM n (ρ 53))) (hi : i < n) (ht : TX f L) (hl : L.length + 18 ≤ 1200) : ∃ f', Run sc n_X10_write 43 [aD 51, aI (nI i), v2] none [] (tSt h φ ρ L f) = Run sc n_X10_write 111 [aD 51, aI (nI i), aI (nI 3)] none [] (tSt h φ ρ (L ++ insT (xM n (ρ 53)) i) f') ∧ TX f' (L ++ insT (xM n (ρ 53)) i) := by
  have ok : ∀ L f r, bI (rOK sc (tSt h φ ρ L f) (aD 51) 12 = true) r = r := fun L f r => bI_r r
  have k1 := (hw.1 i hi).2
  have hwl := wl_pos _ k1
  have e0 : ∀ L f, Call sc n_X10_at [aD 51, aI (nI i), aI (nI 0)] (tSt h φ ρ L f) = some (.inl (some (aI (nI (kx (xM n (ρ 53)) i)))), tSt h φ ρ L f) := fun L f => c_atK (sc := sc) (FO_r (h := h) (φ := upd φ 16 (nI L.length)) (ρ := upr ρ 59 f) h0 hn) hw.1 hi
  have e4 : ∀ L f, Call sc n_X10_at [aD 51, aI (nI i), aI (nI 4)] (tSt h φ ρ L f) = some (.inl (some (aI (xM n (ρ 53) i 4))), tSt h φ ρ L f) := fun L f => c_at (sc := sc) (FO_r (h := h) (φ := upd φ 16 (nI L.length)) (ρ := upr ρ 59 f) h0 hn) hi (show 4 < 5 by omega)
  obtain ⟨f1, q1, t1⟩ := tr_addKind (sc := sc) (h := h) (φ := φ) (ρ := ρ) k1 ht (by omega)
  have l1 : (L ++ wL (kx (xM n (ρ 53)) i)).length ≤ L.length + 5 := by
    rw [List.length_append]
    omega
  rw [insT_eq]
  by_cases ha : xM n (ρ 53) i 4 = nI 1
  · obtain ⟨f2, q2, t2⟩ := tr_add1 (sc := sc) (h := h) (φ := φ) (ρ := ρ) (x := nI 42) (AS_n (by omega)) (by decide) t1 (by omega)
    have l2 : ((L ++ wL (kx (xM n (ρ 53)) i)) ++ [nI 42]).length = (L ++ wL (kx (xM n (ρ 53)) i)).length + 1 := by
      rw [List.length_append]
      rfl
    obtain ⟨f3, q3, t3⟩ := tr_ops (sc := sc) (h := h) (φ := φ) h0 hn hw hi 3 0 rfl _ f2 t2 (by omega)
    rw [if_pos ha, ← List.append_assoc, ← List.append_assoc]
    refine ⟨f3, ?_, t3⟩
    rw [← q3]
    simp only [e_X10_write_43, e_X10_write_50, e_X10_write_53, e_X10_write_59, e_X10_write_63, e_X10_write_69, ok, e0, e4, q1, q2, ha, bO_some, bF_I, bF_D, bF_C, bC_v, pk_mul, nI_add, Option.toList, List.cons_append, List.nil_append, not_true_eq_false, if_false]
  · obtain ⟨f3, q3, t3⟩ := tr_ops (sc := sc) (h := h) (φ := φ) h0 hn hw hi 3 0 rfl _ f1 t1 (by omega)
    rw [if_neg ha, List.append_nil, ← List.append_assoc]
    refine ⟨f3, ?_, t3⟩
    rw [← q3]
    simp only [e_X10_write_43, e_X10_write_50, e_X10_write_53, e_X10_write_59, e_X10_write_69, ok, e0, e4, q1, ha, bO_some, bF_I, bF_D, bF_C, bC_v, pk_mul, nI_add, Option.toList, List.cons_append, List.nil_append, not_false_eq_true, if_true]
theorem tr_prog (h0 : ρ 53 0 = nI n) (hn : n ≤ 60) (hw : WF n (xM n (ρ 53))) : ∀ d j, j + d = n → ∀ f v2, TX f (prT (xM n (ρ 53)) j) → ∃ f', Run sc n_X10_write 12 [aD 51, aI (nI j), v2] none [] (tSt h φ ρ (prT (xM n (ρ 53)) j) f) = some (.inl (some (aI (nI (prT (xM n (ρ 53)) n).length))), tSt h φ ρ (prT (xM n (ρ 53)) n) f') ∧ TX f' (prT (xM n (ρ 53)) n) := by
  have ok : ∀ L f r, bI (rOK sc (tSt h φ ρ L f) (aD 51) 12 = true) r = r := fun L f r => bI_r r
  have em : ∀ L f, Call sc n_X10_entryMany [aD 51] (tSt h φ ρ L f) = some (.inl (some (aI (nI n))), tSt h φ ρ L f) := fun L f => c_entryMany (sc := sc) (FO_r (h := h) (φ := upd φ 16 (nI L.length)) (ρ := upr ρ 59 f) h0 hn)
  intro d
  induction d with
  | zero =>
    intro j hj f v2 ht
    have : j = n := by omega
    subst this
    refine ⟨f, ?_, ht⟩
    have g16 : ∀ L f, getF sc (tSt h φ ρ L f) (aD 51) 12 16 = some (aI (nI L.length)) := fun L f => rf_16
    simp only [e_X10_write_12, e_X10_write_17, e_X10_write_117, e_X10_write_121, ok, em, bO_some, bF_I, bF_D, bF_C, bC_v, pk_mul, nI_add, Option.toList, List.cons_append, List.nil_append, nI_le (Nat.le_refl j) (show j < 2 ^ 31 by omega), if_true, g16]
  | succ d ih =>
    intro j hj f v2 ht
    have hjn : j < n := by omega
    have h1 : ¬ nI n ≤ nI j := nI_ge hjn (by omega)
    have hl := prT_len hn hw j (by omega)
    have hil := insT_len hn hw hjn
    have T43 : ∀ L f v2, TX f L → L.length ≤ 19 * j + 1 → prT (xM n (ρ 53)) (j + 1) = L ++ insT (xM n (ρ 53)) j → ∃ f', Run sc n_X10_write 43 [aD 51, aI (nI j), v2] none [] (tSt h φ ρ L f) = some (.inl (some (aI (nI (prT (xM n (ρ 53)) n).length))), tSt h φ ρ (prT (xM n (ρ 53)) n) f') ∧ TX f' (prT (xM n (ρ 53)) n) := by
      intro L f v2 ht hL hp
      obtain ⟨f1, q1, t1⟩ := tr_ins (sc := sc) (h := h) (φ := φ) (v2 := v2) h0 hn hw hjn ht (by omega)
      rw [← hp] at q1 t1
      obtain ⟨f2, q2, t2⟩ := ih (j + 1) (by omega) f1 (aI (nI 3)) t1
      refine ⟨f2, ?_, t2⟩
      rw [q1, e_X10_write_111, nI_add]
      exact q2
    have hpr : prT (xM n (ρ 53)) (j + 1) = (prT (xM n (ρ 53)) j ++ (if 0 < j then [if slX (xM n (ρ 53)) j = true then nI 124 else nI 59] else [])) ++ insT (xM n (ρ 53)) j := rfl
    simp only [e_X10_write_12, e_X10_write_17, ok, em, bO_some, bF_I, bF_D, bF_C, bC_v, pk_mul, nI_add, Option.toList, List.cons_append, List.nil_append, h1, if_false]
    by_cases hj0 : 0 < j
    · rw [if_pos hj0] at hpr
      have h3 : ¬ nI j ≤ 0 := nI_nle hj0 (by omega)
      have e1 : Call sc n_X10_isSlot [aD 51, aI (nI j)] (tSt h φ ρ (prT (xM n (ρ 53)) j) f) = some (.inl (some (aI (zI (slX (xM n (ρ 53)) j)))), tSt h φ ρ (prT (xM n (ρ 53)) j) f) := c_X10_isSlot (sc := sc) (FO_r (h := h) (φ := upd φ 16 (nI (prT (xM n (ρ 53)) j).length)) (ρ := upr ρ 59 f) h0 hn) hw.1 (show j ≤ n by omega)
      rw [e_X10_write_20, if_neg h3]
      cases hs : slX (xM n (ρ 53)) j
      · rw [hs] at hpr e1
        simp only [reduceCtorEq, if_false] at hpr
        obtain ⟨f1, q1, t1⟩ := tr_add1 (sc := sc) (h := h) (φ := φ) (ρ := ρ) (x := nI 59) (AS_n (by omega)) (by decide) ht (by omega)
        obtain ⟨f2, q2, t2⟩ := T43 _ f1 v2 t1 (by rw [List.length_append]; show _ + 1 ≤ _; omega) hpr
        refine ⟨f2, ?_, t2⟩
        rw [← q2]
        simp only [e_X10_write_24, e_X10_write_30, e_X10_write_38, e_X10_write_40, ok, e1, q1, bO_some, bF_I, bF_D, bF_C, bC_v, pk_mul, nI_add, Option.toList, List.cons_append, List.nil_append, zI_0, if_true, if_false, eq_self, not_true_eq_false, not_false_eq_true]
      · rw [hs] at hpr e1
        simp only [if_true] at hpr
        obtain ⟨f1, q1, t1⟩ := tr_add1 (sc := sc) (h := h) (φ := φ) (ρ := ρ) (x := nI 124) (AS_n (by omega)) (by decide) ht (by omega)
        obtain ⟨f2, q2, t2⟩ := T43 _ f1 v2 t1 (by rw [List.length_append]; show _ + 1 ≤ _; omega) hpr
        refine ⟨f2, ?_, t2⟩
        rw [← q2]
        simp only [e_X10_write_24, e_X10_write_30, e_X10_write_33, e_X10_write_40, ok, e1, q1, bO_some, bF_I, bF_D, bF_C, bC_v, pk_mul, nI_add, Option.toList, List.cons_append, List.nil_append, zI_0, if_true, if_false, eq_self, not_true_eq_false, not_false_eq_true, reduceCtorEq]
    · rw [if_neg hj0, List.append_nil] at hpr
      have h3 : nI j ≤ 0 := by
        rw [show j = 0 by omega]
        decide
      rw [e_X10_write_20, if_pos h3]
      exact T43 _ f v2 ht (by omega) hpr
theorem r_write (h0 : ρ 53 0 = nI n) (hn : n ≤ 60) (hw : WF n (xM n (ρ 53))) : ∃ f', Call sc n_X10_write [aD 51] (rh h φ ρ) = some (.inl (some (aI (nI (prT (xM n (ρ 53)) n).length))), rh h (upd (upd φ 0 (nI 0)) 16 (nI (prT (xM n (ρ 53)) n).length)) (upr ρ 59 f')) ∧ TX f' (prT (xM n (ρ 53)) n) := by
  obtain ⟨f', q1, t1⟩ := tr_prog (sc := sc) (h := h) (φ := upd φ 0 (nI 0)) h0 hn hw n 0 (by omega) (ρ 59) aU (fun j hj => absurd hj (Nat.not_lt_zero j))
  refine ⟨f', ?_, t1⟩
  have e1 : tSt h (upd φ 0 (nI 0)) ρ (prT (xM n (ρ 53)) 0) (ρ 59) = rh h (upd (upd φ 0 (nI 0)) 16 (nI 0)) ρ := by
    unfold tSt
    rw [upr_self]
    rfl
  rw [e1] at q1
  simp only [c0_X10_write, e_X10_write_0, e_X10_write_5, e_X10_write_10, rf_0, rf_1, rf_2, rf_3, rf_4, rf_5, rf_6, rf_7, rf_8, rf_9, rf_10, rf_11, rf_12, rf_13, rf_14, rf_15, rf_16, rf_17, rf_18, rf_19, rf_20, rf_21, rf_22, rf_23, rf_24, rf_25, rf_26, rf_27, rf_28, rf_29, rf_30, rf_31, rf_32, rf_33, rf_34, rp_0, rp_2, rp_5, rp_7, rp_8, rp_9, rp_10, rp_12, rp_16, rp_20, rp_21, rp_22, rp_25, rp_27, rp_30, rp_32, bI_r, bO_some, bF_I, bF_D, bF_C, bC_v, pk_mul, nI_add, Option.toList, List.cons_append, List.nil_append, upd_eq, upr_eq, Nat.reduceEqDiff, reduceIte]
  exact q1
def cdTx (L : List Int32) (x : Int32) : Nat := if IR L.length x then 0 else 1
theorem r_text (h16 : φ 16 = nI L.length) (hL : L.length ≤ 1200) (ht : TX (ρ 59) L) (ha : ∀ c, c ∈ L → AS c) (x : Int32) : ∃ b, Call sc n_X10_text [aD 51, aI x] (rh h φ ρ) = some (.inl (some (aI b)), rh h (upd φ 0 (nI (cdTx L x))) ρ) ∧ (cdTx L x = 0 → b = L.getD x.toNatClampNeg 0) := by
  unfold cdTx
  by_cases h1 : IR L.length x
  · rw [if_pos h1]
    obtain ⟨i, hi, rfl⟩ := has_ex (by omega) h1
    refine ⟨ρ 59 i, ?_, fun _ => by rw [nI_clamp (by omega)]; exact ht i hi⟩
    have hr : ∀ r : Option Res, bI (retK (some FieldType.char) (ρ 59 i) = true) r = r := by
      intro r
      refine bI_t ?_ r
      rw [ht i hi]
      obtain ⟨c, hc, h3⟩ := ha (L.getD i 0) (by
        rw [List.getD_eq_getElem?_getD, List.getElem?_eq_getElem hi]
        exact List.getElem_mem hi)
      rw [h3]
      exact (asc_b c hc).2.2.2
    simp only [c0_X10_text, e_X10_text_0, e_X10_text_7, e_X10_text_12, e_X10_text_15, e_X10_text_19, e_X10_text_20, e_X10_text_23, e_X10_text_27, e_X10_text_30, e_X10_text_34, e_X10_text_36, e_X10_text_39, e_X10_text_40, rf_0, rf_1, rf_2, rf_3, rf_4, rf_5, rf_6, rf_7, rf_8, rf_9, rf_10, rf_11, rf_12, rf_13, rf_14, rf_15, rf_16, rf_17, rf_18, rf_19, rf_20, rf_21, rf_22, rf_23, rf_24, rf_25, rf_26, rf_27, rf_28, rf_29, rf_30, rf_31, rf_32, rf_33, rf_34, rp_0, rp_2, rp_5, rp_7, rp_8, rp_9, rp_10, rp_12, rp_16, rp_20, rp_21, rp_22, rp_25, rp_27, rp_30, rp_32, bI_r, bO_some, bF_I, bF_D, bF_C, bC_v, pk_mul, nI_add, Option.toList, List.cons_append, List.nil_append, upd_eq, upr_eq, Nat.reduceEqDiff, reduceIte, h16, c_isIn, has_in (show L.length < 2 ^ 30 by omega), decide_eq_true h1, zI_0, if_true, if_false, eq_self, not_true_eq_false, not_false_eq_true, reduceCtorEq, rl_60 (show i < 1200 by omega), show (nI 0 = 0) = True from eq_true (by decide), hr]
  · rw [if_neg h1]
    refine ⟨nI 0, ?_, fun z => by cases z⟩
    have hr : ∀ r : Option Res, bI (retK (some FieldType.char) (nI 0) = true) r = r := fun r => bI_t (by decide) r
    simp only [c0_X10_text, e_X10_text_0, e_X10_text_7, e_X10_text_12, e_X10_text_15, e_X10_text_19, e_X10_text_20, e_X10_text_23, e_X10_text_27, e_X10_text_30, e_X10_text_34, e_X10_text_36, e_X10_text_39, e_X10_text_40, rf_0, rf_1, rf_2, rf_3, rf_4, rf_5, rf_6, rf_7, rf_8, rf_9, rf_10, rf_11, rf_12, rf_13, rf_14, rf_15, rf_16, rf_17, rf_18, rf_19, rf_20, rf_21, rf_22, rf_23, rf_24, rf_25, rf_26, rf_27, rf_28, rf_29, rf_30, rf_31, rf_32, rf_33, rf_34, rp_0, rp_2, rp_5, rp_7, rp_8, rp_9, rp_10, rp_12, rp_16, rp_20, rp_21, rp_22, rp_25, rp_27, rp_30, rp_32, bI_r, bO_some, bF_I, bF_D, bF_C, bC_v, pk_mul, nI_add, Option.toList, List.cons_append, List.nil_append, upd_eq, upr_eq, Nat.reduceEqDiff, reduceIte, h16, c_isIn, has_in (show L.length < 2 ^ 30 by omega), decide_eq_false h1, zI_0, if_true, if_false, eq_self, not_true_eq_false, not_false_eq_true, reduceCtorEq, show (nI 1 = 0) = False from eq_false (by decide), hr]
/-- the place of a register or a cell -/
def plX (b : Bool) (x : Int32) : Option Nat := if b = true then (if IR 16 x then some (8 + x.toNatClampNeg) else none) else (if IR 8 x then some x.toNatClampNeg else none)
theorem pl_t (x : Int32) : plX true x = if IR 16 x then some (8 + x.toNatClampNeg) else none := rfl
theorem pl_f (x : Int32) : plX false x = if IR 8 x then some x.toNatClampNeg else none := rfl
theorem pl_lt {b : Bool} {x : Int32} {p : Nat} (hh : plX b x = some p) : p < 24 := by
  cases b
  · rw [pl_f] at hh
    by_cases h1 : IR 8 x
    · rw [if_pos h1] at hh
      obtain ⟨i, hi, rfl⟩ := has_ex (by decide) h1
      have h2 := Option.some.inj hh
      rw [nI_clamp (by omega)] at h2
      omega
    · rw [if_neg h1] at hh
      cases hh
  · rw [pl_t] at hh
    by_cases h1 : IR 16 x
    · rw [if_pos h1] at hh
      obtain ⟨i, hi, rfl⟩ := has_ex (by decide) h1
      have h2 := Option.some.inj hh
      rw [nI_clamp (by omega)] at h2
      omega
    · rw [if_neg h1] at hh
      cases hh
theorem r_placeOf {H : AH} (b : Bool) (x : Int32) : Call sc n_X10_placeOf [aI (zI b), aI x] H = some (.inl (some (aI (enc (plX b x)))), H) := by
  cases b
  · rw [pl_f]
    by_cases h1 : IR 8 x
    · obtain ⟨i, hi, rfl⟩ := has_ex (by decide) h1
      rw [if_pos h1]
      simp only [c0_X10_placeOf, e_X10_placeOf_0, e_X10_placeOf_6, e_X10_placeOf_11, e_X10_placeOf_13, e_X10_placeOf_16, e_X10_placeOf_19, e_X10_placeOf_23, e_X10_placeOf_28, e_X10_placeOf_29, e_X10_placeOf_34, e_X10_placeOf_35, bO_some, bF_I, bF_D, bF_C, bC_v, pk_mul, nI_add, Option.toList, List.cons_append, List.nil_append, zI_0, if_true, if_false, eq_self, not_true_eq_false, not_false_eq_true, reduceCtorEq, c_isIn, inR (show 7 + 1 < 2 ^ 30 by omega), decide_eq_true h1, enc, nI_clamp (show i < 2 ^ 31 by omega), Nat.zero_add]
    · rw [if_neg h1]
      simp only [c0_X10_placeOf, e_X10_placeOf_0, e_X10_placeOf_6, e_X10_placeOf_11, e_X10_placeOf_13, e_X10_placeOf_16, e_X10_placeOf_19, e_X10_placeOf_23, e_X10_placeOf_28, e_X10_placeOf_29, e_X10_placeOf_34, e_X10_placeOf_35, bO_some, bF_I, bF_D, bF_C, bC_v, pk_mul, nI_add, Option.toList, List.cons_append, List.nil_append, zI_0, if_true, if_false, eq_self, not_true_eq_false, not_false_eq_true, reduceCtorEq, c_isIn, inR (show 7 + 1 < 2 ^ 30 by omega), decide_eq_false h1, enc]
  · rw [pl_t]
    by_cases h1 : IR 16 x
    · obtain ⟨i, hi, rfl⟩ := has_ex (by decide) h1
      rw [if_pos h1]
      simp only [c0_X10_placeOf, e_X10_placeOf_0, e_X10_placeOf_6, e_X10_placeOf_11, e_X10_placeOf_13, e_X10_placeOf_16, e_X10_placeOf_19, e_X10_placeOf_23, e_X10_placeOf_28, e_X10_placeOf_29, e_X10_placeOf_34, e_X10_placeOf_35, bO_some, bF_I, bF_D, bF_C, bC_v, pk_mul, nI_add, Option.toList, List.cons_append, List.nil_append, zI_0, if_true, if_false, eq_self, not_true_eq_false, not_false_eq_true, reduceCtorEq, c_isIn, inR (show 15 + 1 < 2 ^ 30 by omega), decide_eq_true h1, enc, nI_clamp (show i < 2 ^ 31 by omega)]
    · rw [if_neg h1]
      simp only [c0_X10_placeOf, e_X10_placeOf_0, e_X10_placeOf_6, e_X10_placeOf_11, e_X10_placeOf_13, e_X10_placeOf_16, e_X10_placeOf_19, e_X10_placeOf_23, e_X10_placeOf_28, e_X10_placeOf_29, e_X10_placeOf_34, e_X10_placeOf_35, bO_some, bF_I, bF_D, bF_C, bC_v, pk_mul, nI_add, Option.toList, List.cons_append, List.nil_append, zI_0, if_true, if_false, eq_self, not_true_eq_false, not_false_eq_true, reduceCtorEq, c_isIn, inR (show 15 + 1 < 2 ^ 30 by omega), decide_eq_false h1, enc]
def cdPl (o : Option Nat) : Nat := match o with
  | none => 1
  | some _ => 0
theorem r_setInitial (b : Bool) (x y : Int32) : ∃ v, Call sc n_X10_setInitial [aD 51, aI (zI b), aI x, aI y] (rh h φ ρ) = some (.inl (some (aI v)), rh h (upd φ 0 (nI (cdPl (plX b x)))) (match plX b x with | none => ρ | some p => upr ρ 60 (upd (ρ 60) p y))) ∧ ∀ p, plX b x = some p → v = ρ 60 p := by
  have e1 := fun H => r_placeOf (sc := sc) (H := H) b x
  cases hp : plX b x with
  | none =>
    rw [hp] at e1
    refine ⟨nI 0, ?_, fun p z => by cases z⟩
    simp only [c0_X10_setInitial, e_X10_setInitial_0, e_X10_setInitial_6, e_X10_setInitial_10, e_X10_setInitial_14, e_X10_setInitial_15, e_X10_setInitial_18, e_X10_setInitial_22, e_X10_setInitial_25, e_X10_setInitial_27, e_X10_setInitial_31, e_X10_setInitial_36, e_X10_setInitial_37, e_X10_setInitial_43, e_X10_setInitial_48, e_X10_setInitial_50, rf_0, rf_1, rf_2, rf_3, rf_4, rf_5, rf_6, rf_7, rf_8, rf_9, rf_10, rf_11, rf_12, rf_13, rf_14, rf_15, rf_16, rf_17, rf_18, rf_19, rf_20, rf_21, rf_22, rf_23, rf_24, rf_25, rf_26, rf_27, rf_28, rf_29, rf_30, rf_31, rf_32, rf_33, rf_34, rp_0, rp_2, rp_5, rp_7, rp_8, rp_9, rp_10, rp_12, rp_16, rp_20, rp_21, rp_22, rp_25, rp_27, rp_30, rp_32, bI_r, bO_some, bF_I, bF_D, bF_C, bC_v, pk_mul, nI_add, Option.toList, List.cons_append, List.nil_append, upd_eq, upr_eq, Nat.reduceEqDiff, reduceIte, zI_0, if_true, if_false, eq_self, not_true_eq_false, not_false_eq_true, e1, enc, cdPl, show (nI 1 = 0) = False from eq_false (by decide)]
  | some p =>
    rw [hp] at e1
    have hlt := pl_lt hp
    have hne : ¬ nI p = -1 := enc_ne (by omega)
    refine ⟨ρ 60 p, ?_, fun p' z => by rw [Option.some.inj z]⟩
    simp only [c0_X10_setInitial, e_X10_setInitial_0, e_X10_setInitial_6, e_X10_setInitial_10, e_X10_setInitial_14, e_X10_setInitial_15, e_X10_setInitial_18, e_X10_setInitial_22, e_X10_setInitial_25, e_X10_setInitial_27, e_X10_setInitial_31, e_X10_setInitial_36, e_X10_setInitial_37, e_X10_setInitial_43, e_X10_setInitial_48, e_X10_setInitial_50, rf_0, rf_1, rf_2, rf_3, rf_4, rf_5, rf_6, rf_7, rf_8, rf_9, rf_10, rf_11, rf_12, rf_13, rf_14, rf_15, rf_16, rf_17, rf_18, rf_19, rf_20, rf_21, rf_22, rf_23, rf_24, rf_25, rf_26, rf_27, rf_28, rf_29, rf_30, rf_31, rf_32, rf_33, rf_34, rp_0, rp_2, rp_5, rp_7, rp_8, rp_9, rp_10, rp_12, rp_16, rp_20, rp_21, rp_22, rp_25, rp_27, rp_30, rp_32, bI_r, bO_some, bF_I, bF_D, bF_C, bC_v, pk_mul, nI_add, Option.toList, List.cons_append, List.nil_append, upd_eq, upr_eq, Nat.reduceEqDiff, reduceIte, zI_0, if_true, if_false, eq_self, not_true_eq_false, not_false_eq_true, e1, enc, hne, cdPl, show (nI 0 = 0) = True from eq_true (by decide), rl_61 hlt, rs_61 hlt]
def cdFv (K : Bool) (o : Option Nat) : Nat := if K = true then (match o with
  | none => 2
  | some _ => 0) else 1
theorem r_finalValue (K : Bool) (h22 : φ 22 = zI K) (b : Bool) (x : Int32) : ∃ v, Call sc n_X10_finalValue [aD 51, aI (zI b), aI x] (rh h φ ρ) = some (.inl (some (aI v)), rh h (upd φ 0 (nI (cdFv K (plX b x)))) ρ) ∧ ∀ p, plX b x = some p → K = true → v = ρ 63 p := by
  have e1 := fun H => r_placeOf (sc := sc) (H := H) b x
  cases K
  · refine ⟨nI 0, ?_, fun p _ z => by cases z⟩
    simp only [c0_X10_finalValue, e_X10_finalValue_0, e_X10_finalValue_5, e_X10_finalValue_8, e_X10_finalValue_12, e_X10_finalValue_17, e_X10_finalValue_21, e_X10_finalValue_25, e_X10_finalValue_26, e_X10_finalValue_29, e_X10_finalValue_33, e_X10_finalValue_36, e_X10_finalValue_40, e_X10_finalValue_45, e_X10_finalValue_46, e_X10_finalValue_49, e_X10_finalValue_50, rf_0, rf_1, rf_2, rf_3, rf_4, rf_5, rf_6, rf_7, rf_8, rf_9, rf_10, rf_11, rf_12, rf_13, rf_14, rf_15, rf_16, rf_17, rf_18, rf_19, rf_20, rf_21, rf_22, rf_23, rf_24, rf_25, rf_26, rf_27, rf_28, rf_29, rf_30, rf_31, rf_32, rf_33, rf_34, rp_0, rp_2, rp_5, rp_7, rp_8, rp_9, rp_10, rp_12, rp_16, rp_20, rp_21, rp_22, rp_25, rp_27, rp_30, rp_32, bI_r, bO_some, bF_I, bF_D, bF_C, bC_v, pk_mul, nI_add, Option.toList, List.cons_append, List.nil_append, upd_eq, upr_eq, Nat.reduceEqDiff, reduceIte, zI_0, if_true, if_false, eq_self, not_true_eq_false, not_false_eq_true, reduceCtorEq, h22, cdFv, show (nI 1 = 0) = False from eq_false (by decide)]
  · cases hp : plX b x with
    | none =>
      rw [hp] at e1
      refine ⟨nI 0, ?_, fun p z => by cases z⟩
      simp only [c0_X10_finalValue, e_X10_finalValue_0, e_X10_finalValue_5, e_X10_finalValue_8, e_X10_finalValue_12, e_X10_finalValue_17, e_X10_finalValue_21, e_X10_finalValue_25, e_X10_finalValue_26, e_X10_finalValue_29, e_X10_finalValue_33, e_X10_finalValue_36, e_X10_finalValue_40, e_X10_finalValue_45, e_X10_finalValue_46, e_X10_finalValue_49, e_X10_finalValue_50, rf_0, rf_1, rf_2, rf_3, rf_4, rf_5, rf_6, rf_7, rf_8, rf_9, rf_10, rf_11, rf_12, rf_13, rf_14, rf_15, rf_16, rf_17, rf_18, rf_19, rf_20, rf_21, rf_22, rf_23, rf_24, rf_25, rf_26, rf_27, rf_28, rf_29, rf_30, rf_31, rf_32, rf_33, rf_34, rp_0, rp_2, rp_5, rp_7, rp_8, rp_9, rp_10, rp_12, rp_16, rp_20, rp_21, rp_22, rp_25, rp_27, rp_30, rp_32, bI_r, bO_some, bF_I, bF_D, bF_C, bC_v, pk_mul, nI_add, Option.toList, List.cons_append, List.nil_append, upd_eq, upr_eq, Nat.reduceEqDiff, reduceIte, zI_0, if_true, if_false, eq_self, not_true_eq_false, not_false_eq_true, reduceCtorEq, h22, e1, enc, cdFv, show (nI 2 = 0) = False from eq_false (by decide)]
    | some p =>
      rw [hp] at e1
      have hlt := pl_lt hp
      have hne : ¬ nI p = -1 := enc_ne (by omega)
      refine ⟨ρ 63 p, ?_, fun p' z _ => by rw [Option.some.inj z]⟩
      simp only [c0_X10_finalValue, e_X10_finalValue_0, e_X10_finalValue_5, e_X10_finalValue_8, e_X10_finalValue_12, e_X10_finalValue_17, e_X10_finalValue_21, e_X10_finalValue_25, e_X10_finalValue_26, e_X10_finalValue_29, e_X10_finalValue_33, e_X10_finalValue_36, e_X10_finalValue_40, e_X10_finalValue_45, e_X10_finalValue_46, e_X10_finalValue_49, e_X10_finalValue_50, rf_0, rf_1, rf_2, rf_3, rf_4, rf_5, rf_6, rf_7, rf_8, rf_9, rf_10, rf_11, rf_12, rf_13, rf_14, rf_15, rf_16, rf_17, rf_18, rf_19, rf_20, rf_21, rf_22, rf_23, rf_24, rf_25, rf_26, rf_27, rf_28, rf_29, rf_30, rf_31, rf_32, rf_33, rf_34, rp_0, rp_2, rp_5, rp_7, rp_8, rp_9, rp_10, rp_12, rp_16, rp_20, rp_21, rp_22, rp_25, rp_27, rp_30, rp_32, bI_r, bO_some, bF_I, bF_D, bF_C, bC_v, pk_mul, nI_add, Option.toList, List.cons_append, List.nil_append, upd_eq, upr_eq, Nat.reduceEqDiff, reduceIte, zI_0, if_true, if_false, eq_self, not_true_eq_false, not_false_eq_true, reduceCtorEq, h22, e1, enc, hne, cdFv, show (nI 0 = 0) = True from eq_true (by decide), rl_64 hlt]
theorem r_outputs (K : Bool) (h22 : φ 22 = zI K) : Call sc n_X10_outputs [aD 51] (rh h φ ρ) = some (.inl (some (aI (if K = true then φ 25 else nI 0))), rh h (upd φ 0 (nI (if K = true then 0 else 1))) ρ) := by
  cases K
  · simp only [c0_X10_outputs, e_X10_outputs_0, e_X10_outputs_5, e_X10_outputs_9, e_X10_outputs_12, e_X10_outputs_16, e_X10_outputs_19, e_X10_outputs_24, rf_0, rf_1, rf_2, rf_3, rf_4, rf_5, rf_6, rf_7, rf_8, rf_9, rf_10, rf_11, rf_12, rf_13, rf_14, rf_15, rf_16, rf_17, rf_18, rf_19, rf_20, rf_21, rf_22, rf_23, rf_24, rf_25, rf_26, rf_27, rf_28, rf_29, rf_30, rf_31, rf_32, rf_33, rf_34, rp_0, rp_2, rp_5, rp_7, rp_8, rp_9, rp_10, rp_12, rp_16, rp_20, rp_21, rp_22, rp_25, rp_27, rp_30, rp_32, bI_r, bO_some, bF_I, bF_D, bF_C, bC_v, pk_mul, nI_add, Option.toList, List.cons_append, List.nil_append, upd_eq, upr_eq, Nat.reduceEqDiff, reduceIte, zI_0, if_true, if_false, eq_self, not_true_eq_false, not_false_eq_true, reduceCtorEq, h22, fail_r, upd_upd]
  · simp only [c0_X10_outputs, e_X10_outputs_0, e_X10_outputs_5, e_X10_outputs_9, e_X10_outputs_12, e_X10_outputs_16, e_X10_outputs_19, e_X10_outputs_24, rf_0, rf_1, rf_2, rf_3, rf_4, rf_5, rf_6, rf_7, rf_8, rf_9, rf_10, rf_11, rf_12, rf_13, rf_14, rf_15, rf_16, rf_17, rf_18, rf_19, rf_20, rf_21, rf_22, rf_23, rf_24, rf_25, rf_26, rf_27, rf_28, rf_29, rf_30, rf_31, rf_32, rf_33, rf_34, rp_0, rp_2, rp_5, rp_7, rp_8, rp_9, rp_10, rp_12, rp_16, rp_20, rp_21, rp_22, rp_25, rp_27, rp_30, rp_32, bI_r, bO_some, bF_I, bF_D, bF_C, bC_v, pk_mul, nI_add, Option.toList, List.cons_append, List.nil_append, upd_eq, upr_eq, Nat.reduceEqDiff, reduceIte, zI_0, if_true, if_false, eq_self, not_true_eq_false, not_false_eq_true, reduceCtorEq, h22]
def cdOu (K : Bool) (m : Nat) (x : Int32) : Nat := if K = true then (if IR m x then 0 else 2) else 1
theorem r_output (K : Bool) (h22 : φ 22 = zI K) (h25 : K = true → φ 25 = nI m ∧ m ≤ 2000) (x : Int32) : ∃ v, Call sc n_X10_output [aD 51, aI x] (rh h φ ρ) = some (.inl (some (aI v)), rh h (upd φ 0 (nI (cdOu K m x))) ρ) ∧ (cdOu K m x = 0 → v = ρ 64 x.toNatClampNeg) := by
  unfold cdOu
  cases K
  · refine ⟨nI 0, ?_, fun z => by cases z⟩
    simp only [c0_X10_output, e_X10_output_0, e_X10_output_5, e_X10_output_8, e_X10_output_12, e_X10_output_18, e_X10_output_23, e_X10_output_26, e_X10_output_30, e_X10_output_31, e_X10_output_34, e_X10_output_38, e_X10_output_41, e_X10_output_45, e_X10_output_47, e_X10_output_50, e_X10_output_51, rf_0, rf_1, rf_2, rf_3, rf_4, rf_5, rf_6, rf_7, rf_8, rf_9, rf_10, rf_11, rf_12, rf_13, rf_14, rf_15, rf_16, rf_17, rf_18, rf_19, rf_20, rf_21, rf_22, rf_23, rf_24, rf_25, rf_26, rf_27, rf_28, rf_29, rf_30, rf_31, rf_32, rf_33, rf_34, rp_0, rp_2, rp_5, rp_7, rp_8, rp_9, rp_10, rp_12, rp_16, rp_20, rp_21, rp_22, rp_25, rp_27, rp_30, rp_32, bI_r, bO_some, bF_I, bF_D, bF_C, bC_v, pk_mul, nI_add, Option.toList, List.cons_append, List.nil_append, upd_eq, upr_eq, Nat.reduceEqDiff, reduceIte, zI_0, if_true, if_false, eq_self, not_true_eq_false, not_false_eq_true, reduceCtorEq, h22, show (nI 1 = 0) = False from eq_false (by decide)]
  · obtain ⟨h25a, hm⟩ := h25 rfl
    rw [if_pos rfl]
    by_cases h1 : IR m x
    · rw [if_pos h1]
      obtain ⟨i, hi, rfl⟩ := has_ex (by omega) h1
      refine ⟨ρ 64 i, ?_, fun _ => by rw [nI_clamp (by omega)]⟩
      simp only [c0_X10_output, e_X10_output_0, e_X10_output_5, e_X10_output_8, e_X10_output_12, e_X10_output_18, e_X10_output_23, e_X10_output_26, e_X10_output_30, e_X10_output_31, e_X10_output_34, e_X10_output_38, e_X10_output_41, e_X10_output_45, e_X10_output_47, e_X10_output_50, e_X10_output_51, rf_0, rf_1, rf_2, rf_3, rf_4, rf_5, rf_6, rf_7, rf_8, rf_9, rf_10, rf_11, rf_12, rf_13, rf_14, rf_15, rf_16, rf_17, rf_18, rf_19, rf_20, rf_21, rf_22, rf_23, rf_24, rf_25, rf_26, rf_27, rf_28, rf_29, rf_30, rf_31, rf_32, rf_33, rf_34, rp_0, rp_2, rp_5, rp_7, rp_8, rp_9, rp_10, rp_12, rp_16, rp_20, rp_21, rp_22, rp_25, rp_27, rp_30, rp_32, bI_r, bO_some, bF_I, bF_D, bF_C, bC_v, pk_mul, nI_add, Option.toList, List.cons_append, List.nil_append, upd_eq, upr_eq, Nat.reduceEqDiff, reduceIte, zI_0, if_true, if_false, eq_self, not_true_eq_false, not_false_eq_true, reduceCtorEq, h22, h25a, c_isIn, has_in (show m < 2 ^ 30 by omega), decide_eq_true h1, show (nI 0 = 0) = True from eq_true (by decide), rl_65 (show i < 2000 by omega)]
    · rw [if_neg h1]
      refine ⟨nI 0, ?_, fun z => by cases z⟩
      simp only [c0_X10_output, e_X10_output_0, e_X10_output_5, e_X10_output_8, e_X10_output_12, e_X10_output_18, e_X10_output_23, e_X10_output_26, e_X10_output_30, e_X10_output_31, e_X10_output_34, e_X10_output_38, e_X10_output_41, e_X10_output_45, e_X10_output_47, e_X10_output_50, e_X10_output_51, rf_0, rf_1, rf_2, rf_3, rf_4, rf_5, rf_6, rf_7, rf_8, rf_9, rf_10, rf_11, rf_12, rf_13, rf_14, rf_15, rf_16, rf_17, rf_18, rf_19, rf_20, rf_21, rf_22, rf_23, rf_24, rf_25, rf_26, rf_27, rf_28, rf_29, rf_30, rf_31, rf_32, rf_33, rf_34, rp_0, rp_2, rp_5, rp_7, rp_8, rp_9, rp_10, rp_12, rp_16, rp_20, rp_21, rp_22, rp_25, rp_27, rp_30, rp_32, bI_r, bO_some, bF_I, bF_D, bF_C, bC_v, pk_mul, nI_add, Option.toList, List.cons_append, List.nil_append, upd_eq, upr_eq, Nat.reduceEqDiff, reduceIte, zI_0, if_true, if_false, eq_self, not_true_eq_false, not_false_eq_true, reduceCtorEq, h22, h25a, c_isIn, has_in (show m < 2 ^ 30 by omega), decide_eq_false h1, show (nI 2 = 0) = False from eq_false (by decide)]
end
