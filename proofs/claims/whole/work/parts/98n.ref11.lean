/-! PURE 61: the reference parses: the whole -/
def cdPa (r : Bool × Nat × Nat × (Nat → Nat → Int32)) (sn : Nat) : Nat := if r.1 = true then (if irB r.2.2.2 r.2.2.1 = true then (if sn + r.2.2.1 ≤ 30 then 0 else 2) else 1) else 0
def anPa (r : Bool × Nat × Nat × (Nat → Nat → Int32)) : Int32 := if r.1 = true then nI r.2.2.1 else (-100) - nI r.2.1
section
variable {sc : SC} {h : AH} {φ : Nat → Int32} {ρ : Nat → Nat → Int32} {len sn : Nat} {v1 v2 v3 v4 : AV}
theorem l_p93 (h8 : φ 8 = nI len) (hl : len ≤ 120) : ∃ mm g, Run sc n_X10_parse 33 [aD 51, v1, v2, v3, v4] none [] (rh h (rd φ 0 none 0) ρ) = Run sc n_X10_parse 93 [aD 51, v1, v2, v3, v4] none [] (rh h (rd φ (rtX (ρ 55) len).2.1 (if (rtX (ρ 55) len).1 = true then none else some (rtX (ρ 55) len).2.1) mm) (upr ρ 56 g)) ∧ ((rtX (ρ 55) len).1 = true → mm = (rtX (ρ 55) len).2.2.1 ∧ xS mm g = (rtX (ρ 55) len).2.2.2) := by
  have hx0 : xS 0 (ρ 56) = fun _ _ => 0 := by
    funext i w
    unfold xS
    rw [if_neg (by omega)]
  unfold rtX
  by_cases h0 : len = 0
  · rw [if_pos h0]
    refine ⟨0, ρ 56, ?_, fun _ => ⟨rfl, hx0⟩⟩
    subst h0
    rw [upr_self]
    simp only [e_X10_parse_33, e_X10_parse_37, rf_0, rf_1, rf_2, rf_3, rf_4, rf_5, rf_6, rf_7, rf_8, rf_9, rf_10, rf_11, rf_12, rf_13, rf_14, rf_15, rf_16, rf_17, rf_18, rf_19, rf_20, rf_21, rf_22, rf_23, rf_24, rf_25, rf_26, rf_27, rf_28, rf_29, rf_30, rf_31, rf_32, rf_33, rf_34, rp_0, rp_2, rp_5, rp_7, rp_8, rp_9, rp_10, rp_12, rp_16, rp_20, rp_21, rp_22, rp_25, rp_27, rp_30, rp_32, bI_r, bO_some, bF_I, bF_D, bF_C, bC_v, pk_mul, nI_add, Option.toList, List.cons_append, List.nil_append, upd_eq, upr_eq, Nat.reduceEqDiff, reduceIte, rd_8, rd_9, rd_10, rd_12, rd_u9, rd_u10s, rd_u12, enc_n, enc_s, h8, show (nI 0 ≤ 0) = True from eq_true (by decide), if_true]
  · rw [if_neg h0]
    have hne : ¬ nI len ≤ 0 := nI_nle (by omega) (by omega)
    obtain ⟨m', g', q1, q2, q3⟩ := r_readInstruction (sc := sc) (h := h) (φ := φ) (ρ := ρ) (pos := 0) (m := 0) h8 hl (by omega) (by omega)
    obtain ⟨mm, g, s1, s2⟩ := l_rtext (sc := sc) (h := h) (φ := φ) (ρ := ρ) (v1 := v1) (v2 := v2) (v3 := v3) (v4 := v4) h8 hl 120 ((inX (ρ 55) len 0).1, (inX (ρ 55) len 0).2.1, 1, appX 0 (fun _ _ => 0) (row (nI (inX (ρ 55) len 0).2.2.1) ((inX (ρ 55) len 0).2.2.2 0) ((inX (ρ 55) len 0).2.2.2 1) ((inX (ρ 55) len 0).2.2.2 2) 0)) m' g' q3 (fun z => by
      have h6 := in_ge z (by omega)
      obtain ⟨h7, h8'⟩ := q2 z
      rw [hx0] at h8'
      refine ⟨h7, ?_, ?_⟩
      · rw [h7]
        exact h8'
      · show 4 * m' ≤ (inX (ρ 55) len 0).2.1 + 1
        omega) (fun z => by
      show len ≤ (inX (ρ 55) len 0).2.1 + 120
      omega)
    refine ⟨mm, g, ?_, s2⟩
    rw [← s1]
    simp only [e_X10_parse_33, e_X10_parse_37, e_X10_parse_40, rf_0, rf_1, rf_2, rf_3, rf_4, rf_5, rf_6, rf_7, rf_8, rf_9, rf_10, rf_11, rf_12, rf_13, rf_14, rf_15, rf_16, rf_17, rf_18, rf_19, rf_20, rf_21, rf_22, rf_23, rf_24, rf_25, rf_26, rf_27, rf_28, rf_29, rf_30, rf_31, rf_32, rf_33, rf_34, rp_0, rp_2, rp_5, rp_7, rp_8, rp_9, rp_10, rp_12, rp_16, rp_20, rp_21, rp_22, rp_25, rp_27, rp_30, rp_32, bI_r, bO_some, bF_I, bF_D, bF_C, bC_v, pk_mul, nI_add, Option.toList, List.cons_append, List.nil_append, upd_eq, upr_eq, Nat.reduceEqDiff, reduceIte, rd_8, rd_9, rd_10, rd_12, rd_u9, rd_u10s, rd_u12, enc_n, enc_s, h8, hne, if_false, q1]
theorem r_parse (h7 : φ 7 = nI len) (hl : len ≤ 120) (h2 : φ 2 = nI sn) (hsn : sn ≤ 30) : ∃ b φ' ρ', Call sc n_X10_parse [aD 51] (rh h φ ρ) = some (.inl (some (aI b)), rh h φ' ρ') ∧ φ' 0 = nI (cdPa (rtX (ρ 55) len) sn) ∧ φ' 7 = nI 0 ∧ (φ' 5 = φ 5 ∧ φ' 16 = φ 16 ∧ φ' 22 = φ 22 ∧ φ' 25 = φ 25 ∧ φ' 30 = φ 30 ∧ φ' 32 = φ 32) ∧ (∀ q, ¬ q = 52 → ¬ q = 56 → ρ' q = ρ q) ∧ (cdPa (rtX (ρ 55) len) sn = 0 → b = anPa (rtX (ρ 55) len)) ∧ ((rtX (ρ 55) len).1 = true ∧ cdPa (rtX (ρ 55) len) sn = 0 → φ' 2 = nI (sn + (rtX (ρ 55) len).2.2.1) ∧ xS (sn + (rtX (ρ 55) len).2.2.1) (ρ' 52) = apdX (rtX (ρ 55) len).2.2.2 sn (xS sn (ρ 52)) (rtX (ρ 55) len).2.2.1) ∧ (¬ ((rtX (ρ 55) len).1 = true ∧ cdPa (rtX (ρ 55) len) sn = 0) → φ' 2 = nI sn ∧ ρ' 52 = ρ 52) := by
  have hok := rt_ok (c := ρ 55) hl
  obtain ⟨mm, g, q1, q2⟩ := l_p93 (sc := sc) (h := h) (φ := upd (upd (upd φ 0 (nI 0)) 8 (nI len)) 7 (nI 0)) (ρ := ρ) (len := len) (v1 := aU) (v2 := aU) (v3 := aU) (v4 := aU) rfl hl
  have hst : upd (upd (upd (upd (upd (upd φ 0 (nI 0)) 8 (nI len)) 7 (nI 0)) 9 (nI 0)) 10 (-1)) 12 (nI 0) = rd (upd (upd (upd φ 0 (nI 0)) 8 (nI len)) 7 (nI 0)) 0 none 0 := rfl
  have q0 : Call sc n_X10_parse [aD 51] (rh h φ ρ) = Run sc n_X10_parse 33 [aD 51, aU, aU, aU, aU] none [] (rh h (rd (upd (upd (upd φ 0 (nI 0)) 8 (nI len)) 7 (nI 0)) 0 none 0) ρ) := by
    rw [← hst]
    simp only [c0_X10_parse, e_X10_parse_0, e_X10_parse_5, e_X10_parse_10, e_X10_parse_13, e_X10_parse_18, e_X10_parse_23, e_X10_parse_28, rf_0, rf_1, rf_2, rf_3, rf_4, rf_5, rf_6, rf_7, rf_8, rf_9, rf_10, rf_11, rf_12, rf_13, rf_14, rf_15, rf_16, rf_17, rf_18, rf_19, rf_20, rf_21, rf_22, rf_23, rf_24, rf_25, rf_26, rf_27, rf_28, rf_29, rf_30, rf_31, rf_32, rf_33, rf_34, rp_0, rp_2, rp_5, rp_7, rp_8, rp_9, rp_10, rp_12, rp_16, rp_20, rp_21, rp_22, rp_25, rp_27, rp_30, rp_32, bI_r, bO_some, bF_I, bF_D, bF_C, bC_v, pk_mul, nI_add, Option.toList, List.cons_append, List.nil_append, upd_eq, upr_eq, Nat.reduceEqDiff, reduceIte, h7]
  rw [q0, q1]
  generalize hr : rtX (ρ 55) len = r at *
  obtain ⟨ok, pos, m, X⟩ := r
  simp only at q2 hok ⊢
  generalize hφ : upd (upd (upd φ 0 (nI 0)) 8 (nI len)) 7 (nI 0) = φ1
  have f0 : φ1 0 = nI 0 := by rw [← hφ]; rfl
  have f2 : φ1 2 = nI sn := by rw [← hφ]; exact h2
  have f7 : φ1 7 = nI 0 := by rw [← hφ]; rfl
  have ff : φ1 5 = φ 5 ∧ φ1 16 = φ 16 ∧ φ1 22 = φ 22 ∧ φ1 25 = φ 25 ∧ φ1 30 = φ 30 ∧ φ1 32 = φ 32 := by
    rw [← hφ]
    exact ⟨rfl, rfl, rfl, rfl, rfl, rfl⟩
  clear hφ
  have hne : ¬ nI pos = -1 := enc_ne (by omega)
  cases ok
  · have hcd : cdPa (false, pos, m, X) sn = 0 := rfl
    rw [hcd]
    refine ⟨(-100) - nI pos, rd φ1 pos (some pos) mm, upr ρ 56 g, ?_, f0, f7, ff, (fun q h1 h3 => by rw [upr_eq, if_neg h3]), fun _ => rfl, (fun z => by cases z.1), fun _ => ⟨f2, rfl⟩⟩
    simp only [e_X10_parse_93, e_X10_parse_97, e_X10_parse_101, e_X10_parse_107, rf_0, rf_1, rf_2, rf_3, rf_4, rf_5, rf_6, rf_7, rf_8, rf_9, rf_10, rf_11, rf_12, rf_13, rf_14, rf_15, rf_16, rf_17, rf_18, rf_19, rf_20, rf_21, rf_22, rf_23, rf_24, rf_25, rf_26, rf_27, rf_28, rf_29, rf_30, rf_31, rf_32, rf_33, rf_34, rp_0, rp_2, rp_5, rp_7, rp_8, rp_9, rp_10, rp_12, rp_16, rp_20, rp_21, rp_22, rp_25, rp_27, rp_30, rp_32, bI_r, bO_some, bF_I, bF_D, bF_C, bC_v, pk_mul, nI_add, Option.toList, List.cons_append, List.nil_append, upd_eq, upr_eq, Nat.reduceEqDiff, reduceIte, rd_8, rd_9, rd_10, rd_12, rd_u9, rd_u10s, rd_u12, enc_n, enc_s, reduceCtorEq, if_false, hne]
  · obtain ⟨hm, hx⟩ := q2 rfl
    subst hm
    obtain ⟨hm30, hGR⟩ := hok.2 rfl
    have hG : ∀ i, i < mm → GR (xS mm (upr ρ 56 g 56)) i := by
      rw [show upr ρ 56 g 56 = g from rfl, hx]
      exact hGR
    have q3 := l_good (sc := sc) (h := h) (φ := rd φ1 pos none mm) (ρ := upr ρ 56 g) (v3 := aU) (v4 := aU) hm30 rfl hG mm 0 (by omega) true
    rw [show upr ρ 56 g 56 = g from rfl, hx, Bool.true_and] at q3
    have hir : alB (irI X mm) mm 0 = irB X mm := rfl
    rw [hir] at q3
    have q4 : Run sc n_X10_parse 93 [aD 51, aU, aU, aU, aU] none [] (rh h (rd φ1 pos (if true = true then none else some pos) mm) (upr ρ 56 g)) = Run sc n_X10_parse 147 [aD 51, aI (zI (irB X mm)), aI (nI mm), aU, aU] none [] (rh h (rd φ1 pos none mm) (upr ρ 56 g)) := by
      rw [← q3]
      simp only [e_X10_parse_93, e_X10_parse_97, e_X10_parse_109, rf_0, rf_1, rf_2, rf_3, rf_4, rf_5, rf_6, rf_7, rf_8, rf_9, rf_10, rf_11, rf_12, rf_13, rf_14, rf_15, rf_16, rf_17, rf_18, rf_19, rf_20, rf_21, rf_22, rf_23, rf_24, rf_25, rf_26, rf_27, rf_28, rf_29, rf_30, rf_31, rf_32, rf_33, rf_34, rp_0, rp_2, rp_5, rp_7, rp_8, rp_9, rp_10, rp_12, rp_16, rp_20, rp_21, rp_22, rp_25, rp_27, rp_30, rp_32, bI_r, bO_some, bF_I, bF_D, bF_C, bC_v, pk_mul, nI_add, Option.toList, List.cons_append, List.nil_append, upd_eq, upr_eq, Nat.reduceEqDiff, reduceIte, rd_8, rd_9, rd_10, rd_12, rd_u9, rd_u10s, rd_u12, enc_n, enc_s, if_true]
      rfl
    rw [q4]
    cases hb : irB X mm
    · have hcd : cdPa (true, pos, mm, X) sn = 1 := by
        unfold cdPa
        simp only [hb, if_true, reduceCtorEq, if_false]
      rw [hcd]
      refine ⟨nI 0, upd (rd φ1 pos none mm) 0 (nI 1), upr ρ 56 g, ?_, rfl, f7, ff, (fun q h1 h3 => by rw [upr_eq, if_neg h3]), (fun z => by cases z), (fun z => by cases z.2), fun _ => ⟨f2, rfl⟩⟩
      simp only [e_X10_parse_147, e_X10_parse_151, e_X10_parse_156, rf_0, rf_1, rf_2, rf_3, rf_4, rf_5, rf_6, rf_7, rf_8, rf_9, rf_10, rf_11, rf_12, rf_13, rf_14, rf_15, rf_16, rf_17, rf_18, rf_19, rf_20, rf_21, rf_22, rf_23, rf_24, rf_25, rf_26, rf_27, rf_28, rf_29, rf_30, rf_31, rf_32, rf_33, rf_34, rp_0, rp_2, rp_5, rp_7, rp_8, rp_9, rp_10, rp_12, rp_16, rp_20, rp_21, rp_22, rp_25, rp_27, rp_30, rp_32, bI_r, bO_some, bF_I, bF_D, bF_C, bC_v, pk_mul, nI_add, Option.toList, List.cons_append, List.nil_append, upd_eq, upr_eq, Nat.reduceEqDiff, reduceIte, zI_0, if_true, if_false, eq_self, not_true_eq_false, not_false_eq_true, fail_r]
    · by_cases h30 : sn + mm ≤ 30
      · have hcd : cdPa (true, pos, mm, X) sn = 0 := by
          unfold cdPa
          simp only [hb, if_true, h30]
        rw [hcd]
        have hle : nI (sn + mm) ≤ nI 30 := nI_le h30 (by omega)
        have hnm := l_apd (sc := sc) (h := h) (φ := rd φ1 pos none mm) (ρ := upr ρ 56 g) (x1 := zI true) (n := sn) (m := mm) h30 rfl (fun i hi => (hG i hi).1) mm 0 (by omega) (ρ 52) aU rfl
        rw [show upr ρ 56 g 56 = g from rfl, hx, show upr ρ 56 g 52 = ρ 52 from rfl] at hnm
        obtain ⟨s', v4', s1, s2⟩ := hnm
        have hself : upr (upr ρ 56 g) 52 (ρ 52) = upr ρ 56 g := upr_self (upr ρ 56 g) 52
        rw [hself] at s1
        refine ⟨nI mm, upd (rd φ1 pos none mm) 2 (nI (sn + mm)), upr (upr ρ 56 g) 52 s', ?_, f0, f7, ff, (fun q h1 h3 => by rw [upr_eq, if_neg h1, upr_eq, if_neg h3]), fun _ => rfl, fun _ => ⟨rfl, s2⟩, fun z => absurd ⟨rfl, rfl⟩ z⟩
        have f2' : rd φ1 pos none mm 2 = nI sn := f2
        simp only [e_X10_parse_147, e_X10_parse_157, e_X10_parse_161, e_X10_parse_165, e_X10_parse_177, e_X10_parse_181, rf_0, rf_1, rf_2, rf_3, rf_4, rf_5, rf_6, rf_7, rf_8, rf_9, rf_10, rf_11, rf_12, rf_13, rf_14, rf_15, rf_16, rf_17, rf_18, rf_19, rf_20, rf_21, rf_22, rf_23, rf_24, rf_25, rf_26, rf_27, rf_28, rf_29, rf_30, rf_31, rf_32, rf_33, rf_34, rp_0, rp_2, rp_5, rp_7, rp_8, rp_9, rp_10, rp_12, rp_16, rp_20, rp_21, rp_22, rp_25, rp_27, rp_30, rp_32, bI_r, bO_some, bF_I, bF_D, bF_C, bC_v, pk_mul, nI_add, Option.toList, List.cons_append, List.nil_append, upd_eq, upr_eq, Nat.reduceEqDiff, reduceIte, rd_8, rd_9, rd_10, rd_12, rd_u9, rd_u10s, rd_u12, enc_n, enc_s, zI_0, if_true, if_false, eq_self, not_true_eq_false, not_false_eq_true, reduceCtorEq, f2', hle]
        rw [s1]
        simp only [e_X10_parse_263, e_X10_parse_268, e_X10_parse_272, e_X10_parse_276, e_X10_parse_280, rf_0, rf_1, rf_2, rf_3, rf_4, rf_5, rf_6, rf_7, rf_8, rf_9, rf_10, rf_11, rf_12, rf_13, rf_14, rf_15, rf_16, rf_17, rf_18, rf_19, rf_20, rf_21, rf_22, rf_23, rf_24, rf_25, rf_26, rf_27, rf_28, rf_29, rf_30, rf_31, rf_32, rf_33, rf_34, rp_0, rp_2, rp_5, rp_7, rp_8, rp_9, rp_10, rp_12, rp_16, rp_20, rp_21, rp_22, rp_25, rp_27, rp_30, rp_32, bI_r, bO_some, bF_I, bF_D, bF_C, bC_v, pk_mul, nI_add, Option.toList, List.cons_append, List.nil_append, upd_eq, upr_eq, Nat.reduceEqDiff, reduceIte, rd_8, rd_9, rd_10, rd_12, rd_u9, rd_u10s, rd_u12, enc_n, enc_s, f2']
      · have hcd : cdPa (true, pos, mm, X) sn = 2 := by
          unfold cdPa
          simp only [hb, if_true, h30, if_false]
        rw [hcd]
        have hle : ¬ nI (sn + mm) ≤ nI 30 := nI_ge (by omega) (by omega)
        have f2' : rd φ1 pos none mm 2 = nI sn := f2
        refine ⟨nI 0, upd (rd φ1 pos none mm) 0 (nI 2), upr ρ 56 g, ?_, rfl, f7, ff, (fun q h1 h3 => by rw [upr_eq, if_neg h3]), (fun z => by cases z), (fun z => by cases z.2), fun _ => ⟨f2, rfl⟩⟩
        simp only [e_X10_parse_147, e_X10_parse_157, e_X10_parse_161, e_X10_parse_165, e_X10_parse_171, e_X10_parse_176, rf_0, rf_1, rf_2, rf_3, rf_4, rf_5, rf_6, rf_7, rf_8, rf_9, rf_10, rf_11, rf_12, rf_13, rf_14, rf_15, rf_16, rf_17, rf_18, rf_19, rf_20, rf_21, rf_22, rf_23, rf_24, rf_25, rf_26, rf_27, rf_28, rf_29, rf_30, rf_31, rf_32, rf_33, rf_34, rp_0, rp_2, rp_5, rp_7, rp_8, rp_9, rp_10, rp_12, rp_16, rp_20, rp_21, rp_22, rp_25, rp_27, rp_30, rp_32, bI_r, bO_some, bF_I, bF_D, bF_C, bC_v, pk_mul, nI_add, Option.toList, List.cons_append, List.nil_append, upd_eq, upr_eq, Nat.reduceEqDiff, reduceIte, rd_8, rd_9, rd_10, rd_12, rd_u9, rd_u10s, rd_u12, enc_n, enc_s, zI_0, if_true, if_false, eq_self, not_true_eq_false, not_false_eq_true, reduceCtorEq, f2', hle, fail_r]
end
