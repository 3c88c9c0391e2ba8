/-! PURE 60: the reference parses -/
section
variable {sc : SC} {h : AH} {φ : Nat → Int32} {ρ : Nat → Nat → Int32} {len j p pos m k i f n sn : Nat} {ft : Option Nat} {v x1 x : Int32} {v1 v2 v3 v4 : AV}
theorem fl_se (b : Bool) (pos : Nat) (hp : pos < 2 ^ 31) : (enc (if b = true then none else some pos) = -1) = (b = true) := by
  cases b
  · simp only [reduceCtorEq, if_false, enc_s]
    exact eq_false (enc_ne hp)
  · simp only [if_true, enc_n]
theorem l_rtext (h8 : φ 8 = nI len) (hl : len ≤ 120) : ∀ d (st : Bool × Nat × Nat × (Nat → Nat → Int32)) mm g, st.2.1 ≤ len → (st.1 = true → mm = st.2.2.1 ∧ xS mm g = st.2.2.2 ∧ 4 * mm ≤ st.2.1 + 1) → (st.1 = true → len ≤ st.2.1 + d) → ∃ mm' g', Run sc n_X10_parse 44 [aD 51, v1, v2, v3, v4] none [] (rh h (rd φ st.2.1 (if st.1 = true then none else some st.2.1) mm) (upr ρ 56 g)) = Run sc n_X10_parse 93 [aD 51, v1, v2, v3, v4] none [] (rh h (rd φ (txX (ρ 55) len d st).2.1 (if (txX (ρ 55) len d st).1 = true then none else some (txX (ρ 55) len d st).2.1) mm') (upr ρ 56 g')) ∧ ((txX (ρ 55) len d st).1 = true → mm' = (txX (ρ 55) len d st).2.2.1 ∧ xS mm' g' = (txX (ρ 55) len d st).2.2.2) := by
  have TE : ∀ (pos mm : Nat) (ft : Option Nat) g, pos ≤ len → (∀ f, ft = some f → f < 2 ^ 31) → Run sc n_X10_parse 78 [aD 51, v1, v2, v3, v4] none [] (rh h (rd φ pos ft mm) (upr ρ 56 g)) = Run sc n_X10_parse 93 [aD 51, v1, v2, v3, v4] none [] (rh h (rd φ pos (if pos < len then some (ft.getD pos) else ft) mm) (upr ρ 56 g)) := by
    intro pos mm ft g hp hf
    by_cases h1 : pos < len
    · have h2 : ¬ nI len ≤ nI pos := nI_ge h1 (by omega)
      simp only [e_X10_parse_78, e_X10_parse_82, e_X10_parse_86, e_X10_parse_89, rf_0, rf_1, rf_2, rf_3, rf_4, rf_5, rf_6, rf_7, rf_8, rf_9, rf_10, rf_11, rf_12, rf_13, rf_14, rf_15, rf_16, rf_17, rf_18, rf_19, rf_20, rf_21, rf_22, rf_23, rf_24, rf_25, rf_26, rf_27, rf_28, rf_29, rf_30, rf_31, rf_32, rf_33, rf_34, rp_0, rp_2, rp_5, rp_7, rp_8, rp_9, rp_10, rp_12, rp_16, rp_20, rp_21, rp_22, rp_25, rp_27, rp_30, rp_32, bI_r, bO_some, bF_I, bF_D, bF_C, bC_v, pk_mul, nI_add, Option.toList, List.cons_append, List.nil_append, upd_eq, upr_eq, Nat.reduceEqDiff, reduceIte, rd_8, rd_9, rd_10, rd_12, rd_u9, rd_u10s, rd_u12, enc_n, enc_s, h8, h2, h1, if_true, if_false, r_fault hf]
    · have h2 : nI len ≤ nI pos := nI_le (by omega) (by omega)
      simp only [e_X10_parse_78, e_X10_parse_82, e_X10_parse_86, rf_0, rf_1, rf_2, rf_3, rf_4, rf_5, rf_6, rf_7, rf_8, rf_9, rf_10, rf_11, rf_12, rf_13, rf_14, rf_15, rf_16, rf_17, rf_18, rf_19, rf_20, rf_21, rf_22, rf_23, rf_24, rf_25, rf_26, rf_27, rf_28, rf_29, rf_30, rf_31, rf_32, rf_33, rf_34, rp_0, rp_2, rp_5, rp_7, rp_8, rp_9, rp_10, rp_12, rp_16, rp_20, rp_21, rp_22, rp_25, rp_27, rp_30, rp_32, bI_r, bO_some, bF_I, bF_D, bF_C, bC_v, pk_mul, nI_add, Option.toList, List.cons_append, List.nil_append, upd_eq, upr_eq, Nat.reduceEqDiff, reduceIte, rd_8, rd_9, rd_10, rd_12, rd_u9, rd_u10s, rd_u12, enc_n, enc_s, h8, h2, h1, if_true, if_false]
  have TF : ∀ (pos mm : Nat) g, pos ≤ len → Run sc n_X10_parse 44 [aD 51, v1, v2, v3, v4] none [] (rh h (rd φ pos (some pos) mm) (upr ρ 56 g)) = Run sc n_X10_parse 93 [aD 51, v1, v2, v3, v4] none [] (rh h (rd φ pos (some pos) mm) (upr ρ 56 g)) := by
    intro pos mm g hp
    have h3 : ¬ nI pos = -1 := enc_ne (by omega)
    have h4 := TE pos mm (some pos) g hp (fun f z => by cases z; omega)
    simp only [e_X10_parse_44, e_X10_parse_48, rf_0, rf_1, rf_2, rf_3, rf_4, rf_5, rf_6, rf_7, rf_8, rf_9, rf_10, rf_11, rf_12, rf_13, rf_14, rf_15, rf_16, rf_17, rf_18, rf_19, rf_20, rf_21, rf_22, rf_23, rf_24, rf_25, rf_26, rf_27, rf_28, rf_29, rf_30, rf_31, rf_32, rf_33, rf_34, rp_0, rp_2, rp_5, rp_7, rp_8, rp_9, rp_10, rp_12, rp_16, rp_20, rp_21, rp_22, rp_25, rp_27, rp_30, rp_32, bI_r, bO_some, bF_I, bF_D, bF_C, bC_v, pk_mul, nI_add, Option.toList, List.cons_append, List.nil_append, upd_eq, upr_eq, Nat.reduceEqDiff, reduceIte, rd_8, rd_9, rd_10, rd_12, rd_u9, rd_u10s, rd_u12, enc_n, enc_s, h3, not_false_eq_true, if_true, h4, Option.getD_some]
    split <;> rfl
  have TN : ∀ (pos mm : Nat) g, pos ≤ len → ¬ psX (ρ 55) len pos (nI 59) = true → Run sc n_X10_parse 44 [aD 51, v1, v2, v3, v4] none [] (rh h (rd φ pos none mm) (upr ρ 56 g)) = Run sc n_X10_parse 93 [aD 51, v1, v2, v3, v4] none [] (rh h (rd φ pos (if pos < len then some pos else none) mm) (upr ρ 56 g)) := by
    intro pos mm g hp hps
    have hs := r_sign (sc := sc) (h := h) (φ := φ) (ρ := upr ρ 56 g) (ft := none) (m := mm) h8 hl hp
    have h4 := TE pos mm none g hp (fun f z => by cases z)
    have h5 : ¬ sgX (upr ρ 56 g 55) len pos = nI 59 := by
      rw [sg_ps (by decide)]
      exact hps
    simp only [e_X10_parse_44, e_X10_parse_48, e_X10_parse_52, e_X10_parse_56, bI_r, rf_0, rf_1, rf_2, rf_3, rf_4, rf_5, rf_6, rf_7, rf_8, rf_9, rf_10, rf_11, rf_12, rf_13, rf_14, rf_15, rf_16, rf_17, rf_18, rf_19, rf_20, rf_21, rf_22, rf_23, rf_24, rf_25, rf_26, rf_27, rf_28, rf_29, rf_30, rf_31, rf_32, rf_33, rf_34, bO_some, bF_I, bF_D, bF_C, bC_v, pk_mul, nI_add, Option.toList, List.cons_append, List.nil_append, rd_8, rd_9, rd_10, rd_12, rd_u9, rd_u10s, rd_u12, enc_n, enc_s, not_true_eq_false, not_false_eq_true, if_true, if_false, hs, h5, h4, Option.getD_none]
  intro d
  induction d with
  | zero =>
    intro st mm g hp hs hd
    obtain ⟨ok, pos, m0, X⟩ := st
    simp only at hp hs hd
    refine ⟨mm, g, ?_, fun z => ⟨(hs z).1, (hs z).2.1⟩⟩
    cases ok
    · exact TF pos mm g hp
    · have h1 := hd rfl
      have h2 := TN pos mm g hp (fun z => by
        unfold psX at z
        rw [Bool.and_eq_true] at z
        have := of_decide_eq_true z.1
        omega)
      rw [if_neg (by omega)] at h2
      exact h2
  | succ d ih =>
    intro st mm g hp hs hd
    obtain ⟨ok, pos, m0, X⟩ := st
    simp only at hp hs hd
    cases ok
    · refine ⟨mm, g, ?_, (fun z => by cases z)⟩
      exact TF pos mm g hp
    · obtain ⟨hs1, hs2, hs3⟩ := hs rfl
      subst hs1
      by_cases hlt : pos < len
      · have htx : txX (ρ 55) len (d + 1) (true, pos, mm, X) = (if psX (ρ 55) len pos (nI 59) = true then txX (ρ 55) len d ((inX (ρ 55) len (pos + 1)).1, (inX (ρ 55) len (pos + 1)).2.1, mm + 1, appX mm X (row (nI (inX (ρ 55) len (pos + 1)).2.2.1) ((inX (ρ 55) len (pos + 1)).2.2.2 0) ((inX (ρ 55) len (pos + 1)).2.2.2 1) ((inX (ρ 55) len (pos + 1)).2.2.2 2) 0)) else (false, pos, mm, X)) := by
          show (if (true = true ∧ pos < len) then _ else _) = _
          rw [if_pos ⟨rfl, hlt⟩]
        rw [htx]
        by_cases hps : psX (ρ 55) len pos (nI 59) = true
        · rw [if_pos hps]
          have hs := r_sign (sc := sc) (h := h) (φ := φ) (ρ := upr ρ 56 g) (ft := none) (m := mm) h8 hl hp
          have h5 : sgX (upr ρ 56 g 55) len pos = nI 59 := by
            rw [sg_ps (by decide)]
            exact hps
          have hri := r_readInstruction (sc := sc) (h := h) (φ := φ) (ρ := upr ρ 56 g) (pos := pos + 1) (m := mm) h8 hl (by omega) (by omega)
          rw [show upr ρ 56 g 55 = ρ 55 from rfl, show upr ρ 56 g 56 = g from rfl] at hri
          obtain ⟨m', g', q1, q2, q3⟩ := hri
          rw [upr_upr] at q1
          obtain ⟨mm', g'', s1, s2⟩ := ih ((inX (ρ 55) len (pos + 1)).1, (inX (ρ 55) len (pos + 1)).2.1, mm + 1, appX mm X (row (nI (inX (ρ 55) len (pos + 1)).2.2.1) ((inX (ρ 55) len (pos + 1)).2.2.2 0) ((inX (ρ 55) len (pos + 1)).2.2.2 1) ((inX (ρ 55) len (pos + 1)).2.2.2 2) 0)) m' g' q3 (fun z => by
            have h6 := in_ge z (by omega)
            obtain ⟨h7, h8'⟩ := q2 z
            refine ⟨h7, ?_, ?_⟩
            · rw [h7, h8', hs2]
            · show 4 * m' ≤ (inX (ρ 55) len (pos + 1)).2.1 + 1
              omega) (fun z => by
            have h6 := in_ge z (by omega)
            have h7 := hd rfl
            show len ≤ (inX (ρ 55) len (pos + 1)).2.1 + d
            omega)
          refine ⟨mm', g'', ?_, s2⟩
          rw [← s1]
          simp only [e_X10_parse_44, e_X10_parse_48, e_X10_parse_52, e_X10_parse_56, e_X10_parse_61, e_X10_parse_66, e_X10_parse_71, e_X10_parse_75, rf_0, rf_1, rf_2, rf_3, rf_4, rf_5, rf_6, rf_7, rf_8, rf_9, rf_10, rf_11, rf_12, rf_13, rf_14, rf_15, rf_16, rf_17, rf_18, rf_19, rf_20, rf_21, rf_22, rf_23, rf_24, rf_25, rf_26, rf_27, rf_28, rf_29, rf_30, rf_31, rf_32, rf_33, rf_34, rp_0, rp_2, rp_5, rp_7, rp_8, rp_9, rp_10, rp_12, rp_16, rp_20, rp_21, rp_22, rp_25, rp_27, rp_30, rp_32, bI_r, bO_some, bF_I, bF_D, bF_C, bC_v, pk_mul, nI_add, Option.toList, List.cons_append, List.nil_append, rd_8, rd_9, rd_10, rd_12, rd_u9, rd_u10s, rd_u12, enc_n, enc_s, not_true_eq_false, if_true, if_false, hs, h5, q1]
        · rw [if_neg hps]
          refine ⟨mm, g, ?_, (fun z => by cases z)⟩
          have h2 := TN pos mm g hp hps
          rw [if_pos hlt] at h2
          exact h2
      · have htx : txX (ρ 55) len (d + 1) (true, pos, mm, X) = (true, pos, mm, X) := by
          show (if (true = true ∧ pos < len) then _ else _) = _
          rw [if_neg (fun z => hlt z.2)]
        rw [htx]
        refine ⟨mm, g, ?_, fun _ => ⟨rfl, hs2⟩⟩
        have h2 := TN pos mm g hp (fun z => by
          unfold psX at z
          rw [Bool.and_eq_true] at z
          have := of_decide_eq_true z.1
          omega)
        rw [if_neg hlt] at h2
        exact h2
theorem l_good (hm : m ≤ 30) (h12 : φ 12 = nI m) (hg : ∀ i, i < m → GR (xS m (ρ 56)) i) : ∀ d i, i + d = m → ∀ b : Bool, Run sc n_X10_parse 113 [aD 51, aI (zI b), aI (nI i), v3, v4] none [] (rh h φ ρ) = Run sc n_X10_parse 147 [aD 51, aI (zI (b && alB (irI (xS m (ρ 56)) m) d i)), aI (nI m), v3, v4] none [] (rh h φ ρ) := by
  intro d
  induction d with
  | zero =>
    intro i hi b
    have : i = m := by omega
    subst this
    simp only [e_X10_parse_113, e_X10_parse_118, rf_0, rf_1, rf_2, rf_3, rf_4, rf_5, rf_6, rf_7, rf_8, rf_9, rf_10, rf_11, rf_12, rf_13, rf_14, rf_15, rf_16, rf_17, rf_18, rf_19, rf_20, rf_21, rf_22, rf_23, rf_24, rf_25, rf_26, rf_27, rf_28, rf_29, rf_30, rf_31, rf_32, rf_33, rf_34, rp_0, rp_2, rp_5, rp_7, rp_8, rp_9, rp_10, rp_12, rp_16, rp_20, rp_21, rp_22, rp_25, rp_27, rp_30, rp_32, bI_r, bO_some, bF_I, bF_D, bF_C, bC_v, pk_mul, nI_add, Option.toList, List.cons_append, List.nil_append, upd_eq, upr_eq, Nat.reduceEqDiff, reduceIte, h12, nI_le (Nat.le_refl i) (show i < 2 ^ 31 by omega), if_true, alB, Bool.and_true]
  | succ d ih =>
    intro i hi b
    have hin : i < m := by omega
    have h1 : ¬ nI m ≤ nI i := nI_ge (by omega) (by omega)
    have e1 := r_isGood (sc := sc) (h := h) hm h12 hin (hg i hin)
    cases b
    · have h2 := ih (i + 1) (by omega) false
      simp only [Bool.false_and] at h2 ⊢
      rw [e_X10_parse_113]
      simp only [e_X10_parse_118, e_X10_parse_121, e_X10_parse_139, e_X10_parse_140, rf_0, rf_1, rf_2, rf_3, rf_4, rf_5, rf_6, rf_7, rf_8, rf_9, rf_10, rf_11, rf_12, rf_13, rf_14, rf_15, rf_16, rf_17, rf_18, rf_19, rf_20, rf_21, rf_22, rf_23, rf_24, rf_25, rf_26, rf_27, rf_28, rf_29, rf_30, rf_31, rf_32, rf_33, rf_34, rp_0, rp_2, rp_5, rp_7, rp_8, rp_9, rp_10, rp_12, rp_16, rp_20, rp_21, rp_22, rp_25, rp_27, rp_30, rp_32, bI_r, bO_some, bF_I, bF_D, bF_C, bC_v, pk_mul, nI_add, Option.toList, List.cons_append, List.nil_append, upd_eq, upr_eq, Nat.reduceEqDiff, reduceIte, h12, h1, zI_0, if_true, if_false, eq_self, not_true_eq_false, not_false_eq_true]
      exact h2
    · rw [e_X10_parse_113]
      simp only [e_X10_parse_118, e_X10_parse_121, e_X10_parse_125, e_X10_parse_132, rf_0, rf_1, rf_2, rf_3, rf_4, rf_5, rf_6, rf_7, rf_8, rf_9, rf_10, rf_11, rf_12, rf_13, rf_14, rf_15, rf_16, rf_17, rf_18, rf_19, rf_20, rf_21, rf_22, rf_23, rf_24, rf_25, rf_26, rf_27, rf_28, rf_29, rf_30, rf_31, rf_32, rf_33, rf_34, rp_0, rp_2, rp_5, rp_7, rp_8, rp_9, rp_10, rp_12, rp_16, rp_20, rp_21, rp_22, rp_25, rp_27, rp_30, rp_32, bI_r, bO_some, bF_I, bF_D, bF_C, bC_v, pk_mul, nI_add, Option.toList, List.cons_append, List.nil_append, upd_eq, upr_eq, Nat.reduceEqDiff, reduceIte, h12, h1, zI_0, if_true, if_false, eq_self, not_true_eq_false, not_false_eq_true, reduceCtorEq, e1, alB, Bool.true_and]
      cases hb : irI (xS m (ρ 56)) m i
      · have h2 := ih (i + 1) (by omega) false
        simp only [Bool.false_and] at h2 ⊢
        simp only [e_X10_parse_139, e_X10_parse_140, bO_some, bF_I, bF_D, bF_C, bC_v, pk_mul, nI_add, Option.toList, List.cons_append, List.nil_append, zI_0, if_true, if_false, eq_self, not_true_eq_false, not_false_eq_true]
        exact h2
      · have h2 := ih (i + 1) (by omega) true
        simp only [Bool.true_and] at h2 ⊢
        simp only [e_X10_parse_135, e_X10_parse_140, bO_some, bF_I, bF_D, bF_C, bC_v, pk_mul, nI_add, Option.toList, List.cons_append, List.nil_append, zI_0, if_true, if_false, eq_self, not_true_eq_false, not_false_eq_true, reduceCtorEq]
        exact h2
theorem l_apd (hn : n + m ≤ 30) (h12 : φ 12 = nI m) (hv : ∀ i, i < m → xS m (ρ 56) i 0 = nI (kx (xS m (ρ 56)) i) ∧ kx (xS m (ρ 56)) i < 12) : ∀ d j, j + d = m → ∀ s v4, xS (n + j) s = apdX (xS m (ρ 56)) n (xS n (ρ 52)) j → ∃ s' v4', Run sc n_X10_parse 184 [aD 51, aI x1, aI (nI n), aI (nI j), v4] none [] (rh h φ (upr ρ 52 s)) = Run sc n_X10_parse 263 [aD 51, aI x1, aI (nI n), aI (nI m), v4'] none [] (rh h φ (upr ρ 52 s')) ∧ xS (n + m) s' = apdX (xS m (ρ 56)) n (xS n (ρ 52)) m := by
  intro d
  induction d with
  | zero =>
    intro j hj s v4 hs
    have : j = m := by omega
    subst this
    refine ⟨s, v4, ?_, hs⟩
    simp only [e_X10_parse_184, e_X10_parse_189, rf_0, rf_1, rf_2, rf_3, rf_4, rf_5, rf_6, rf_7, rf_8, rf_9, rf_10, rf_11, rf_12, rf_13, rf_14, rf_15, rf_16, rf_17, rf_18, rf_19, rf_20, rf_21, rf_22, rf_23, rf_24, rf_25, rf_26, rf_27, rf_28, rf_29, rf_30, rf_31, rf_32, rf_33, rf_34, rp_0, rp_2, rp_5, rp_7, rp_8, rp_9, rp_10, rp_12, rp_16, rp_20, rp_21, rp_22, rp_25, rp_27, rp_30, rp_32, bI_r, bO_some, bF_I, bF_D, bF_C, bC_v, pk_mul, nI_add, Option.toList, List.cons_append, List.nil_append, upd_eq, upr_eq, Nat.reduceEqDiff, reduceIte, h12, nI_le (Nat.le_refl j) (show j < 2 ^ 31 by omega), if_true]
  | succ d ih =>
    intro j hj s v4 hs
    have hjm : j < m := by omega
    have h1 : ¬ nI m ≤ nI j := nI_ge (by omega) (by omega)
    have p0 : ρ 56 (4 * j) = nI (kx (xS m (ρ 56)) j) := (xS_at hjm (show 0 < 4 by omega)).trans (hv j hjm).1
    have p1 := xS_at (s := ρ 56) hjm (show 1 < 4 by omega)
    have p2 := xS_at (s := ρ 56) hjm (show 2 < 4 by omega)
    have p3 := xS_at (s := ρ 56) hjm (show 3 < 4 by omega)
    have k0 := (hv j hjm).1
    have br := fun H => c_isBranch (sc := sc) (h := H) (hv j hjm).2
    have r57 := fun w (hw : w < 244) ρ' => rl_57 (sc := sc) (h := h) (φ := φ) (ρ := ρ') hw
    have s53 := fun w (hw : w < 120) ρ' x => rs_53 (h := h) (φ := φ) (ρ := ρ') (x := x) hw
    obtain ⟨s', v4', q1, q2⟩ := ih (j + 1) (by omega) (upd (upd (upd (upd s (4 * (n + j)) (nI (kx (xS m (ρ 56)) j) + nI 0)) (4 * (n + j) + 1) (xS m (ρ 56) j 1 + nI 0)) (4 * (n + j) + 2) (xS m (ρ 56) j 2 + nI 0)) (4 * (n + j) + 3) (xS m (ρ 56) j 3 + (if kBr (kx (xS m (ρ 56)) j) = true then nI n else nI 0))) (aI (nI 4)) (by
      have hz : ∀ y : Int32, y + nI 0 = y := fun y => Int32.add_zero y
      rw [show n + (j + 1) = n + j + 1 from rfl, xS_app (s := s) (k0 := nI (kx (xS m (ρ 56)) j)) (vs := fun i => if i = 0 then xS m (ρ 56) j 1 else if i = 1 then xS m (ρ 56) j 2 else (if kBr (kx (xS m (ρ 56)) j) = true then nI n + xS m (ρ 56) j 3 else xS m (ρ 56) j 3)) ?_ ?_ ?_, hs]
      · show _ = appX (n + j) (apdX (xS m (ρ 56)) n (xS n (ρ 52)) j) (row (xS m (ρ 56) j 0) (xS m (ρ 56) j 1) (xS m (ρ 56) j 2) (if kBr (kx (xS m (ρ 56)) j) = true then nI n + xS m (ρ 56) j 3 else xS m (ρ 56) j 3) 0)
        rw [k0]
        rfl
      · rw [upd_eq, if_neg (by omega), upd_eq, if_neg (by omega), upd_eq, if_neg (by omega), upd_eq, if_pos rfl, hz]
      · intro i hi
        have h3 : i = 0 ∨ i = 1 ∨ i = 2 := by omega
        rcases h3 with rfl | rfl | rfl
        · rw [upd_eq, if_neg (by omega), upd_eq, if_neg (by omega), upd_eq, if_pos (by omega), hz]
          rfl
        · rw [upd_eq, if_neg (by omega), upd_eq, if_pos (by omega), hz]
          rfl
        · rw [upd_eq, if_pos (by omega)]
          show _ = if kBr (kx (xS m (ρ 56)) j) = true then nI n + xS m (ρ 56) j 3 else xS m (ρ 56) j 3
          split
          · exact Int32.add_comm _ _
          · exact hz _
      · intro i hi
        rw [upd_eq, if_neg (by omega), upd_eq, if_neg (by omega), upd_eq, if_neg (by omega), upd_eq, if_neg (by omega)])
    refine ⟨s', v4', ?_, q2⟩
    rw [← q1]
    have A : ∀ (H : AH) (w : Nat) (y2 : Int32) (y1 : Int32), w < 3 → Run sc n_X10_parse 224 [aD 51, aI x1, aI (nI n), aI (nI j), aI (nI w)] none [aI y2, aI y1, aD 52] H = Run sc n_X10_parse 249 [aD 51, aI x1, aI (nI n), aI (nI j), aI (nI w)] none [aI (nI 0), aI y2, aI y1, aD 52] H := by
      intro H w y2 y1 hw
      have h2 : ¬ nI w = nI 3 := fun z => by
        have := nI_inj (by omega) (by omega) z
        omega
      simp only [e_X10_parse_224, e_X10_parse_248, h2, not_false_eq_true, if_true]
    have A3 : ∀ (s2 : Nat → Int32) (y2 : Int32) (y1 : Int32), Run sc n_X10_parse 224 [aD 51, aI x1, aI (nI n), aI (nI j), aI (nI 3)] none [aI y2, aI y1, aD 52] (rh h φ (upr ρ 52 s2)) = Run sc n_X10_parse 249 [aD 51, aI x1, aI (nI n), aI (nI j), aI (nI 3)] none [aI (if kBr (kx (xS m (ρ 56)) j) = true then nI n else nI 0), aI y2, aI y1, aD 52] (rh h φ (upr ρ 52 s2)) := by
      intro s2 y2 y1
      simp only [e_X10_parse_224, e_X10_parse_230, e_X10_parse_234, e_X10_parse_238, e_X10_parse_241, not_true_eq_false, if_false, rf_0, rf_1, rf_2, rf_3, rf_4, rf_5, rf_6, rf_7, rf_8, rf_9, rf_10, rf_11, rf_12, rf_13, rf_14, rf_15, rf_16, rf_17, rf_18, rf_19, rf_20, rf_21, rf_22, rf_23, rf_24, rf_25, rf_26, rf_27, rf_28, rf_29, rf_30, rf_31, rf_32, rf_33, rf_34, rp_0, rp_2, rp_5, rp_7, rp_8, rp_9, rp_10, rp_12, rp_16, rp_20, rp_21, rp_22, rp_25, rp_27, rp_30, rp_32, bI_r, bO_some, bF_I, bF_D, bF_C, bC_v, pk_mul, nI_add, Option.toList, List.cons_append, List.nil_append, upd_eq, upr_eq, Nat.reduceEqDiff, reduceIte, r57 (4 * j) (by omega), p0, br]
      cases kBr (kx (xS m (ρ 56)) j)
      · simp only [zI_0, if_true, if_false, eq_self, not_true_eq_false, not_false_eq_true, reduceCtorEq, e_X10_parse_248]
      · simp only [zI_0, if_true, if_false, eq_self, not_true_eq_false, not_false_eq_true, reduceCtorEq, e_X10_parse_244]
    have A0 := fun H y2 y1 => A H 0 y2 y1 (by omega)
    have A1 := fun H y2 y1 => A H 1 y2 y1 (by omega)
    have A2 := fun H y2 y1 => A H 2 y2 y1 (by omega)
    simp only [e_X10_parse_184, e_X10_parse_189, e_X10_parse_192, e_X10_parse_195, e_X10_parse_201, e_X10_parse_205, e_X10_parse_217, e_X10_parse_249, e_X10_parse_251, e_X10_parse_257, rf_0, rf_1, rf_2, rf_3, rf_4, rf_5, rf_6, rf_7, rf_8, rf_9, rf_10, rf_11, rf_12, rf_13, rf_14, rf_15, rf_16, rf_17, rf_18, rf_19, rf_20, rf_21, rf_22, rf_23, rf_24, rf_25, rf_26, rf_27, rf_28, rf_29, rf_30, rf_31, rf_32, rf_33, rf_34, rp_0, rp_2, rp_5, rp_7, rp_8, rp_9, rp_10, rp_12, rp_16, rp_20, rp_21, rp_22, rp_25, rp_27, rp_30, rp_32, bI_r, bO_some, bF_I, bF_D, bF_C, bC_v, pk_mul, nI_add, Option.toList, List.cons_append, List.nil_append, upd_eq, upr_eq, Nat.reduceEqDiff, reduceIte, h12, h1, if_true, if_false, Nat.add_zero, r57 (4 * j) (by omega), r57 (4 * j + 1) (by omega), r57 (4 * j + 2) (by omega), r57 (4 * j + 3) (by omega), p0, p1, p2, p3, A0, A1, A2, A3, s53 (4 * (n + j)) (by omega), s53 (4 * (n + j) + 1) (by omega), s53 (4 * (n + j) + 2) (by omega), s53 (4 * (n + j) + 3) (by omega), upr_upr, show ¬ nI 4 ≤ nI 0 from by decide, show ¬ nI 4 ≤ nI 1 from by decide, show ¬ nI 4 ≤ nI 2 from by decide, show ¬ nI 4 ≤ nI 3 from by decide, show nI 4 ≤ nI 4 from by decide, Nat.reduceAdd]
end
