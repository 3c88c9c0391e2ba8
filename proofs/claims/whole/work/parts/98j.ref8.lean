/-! PURE 57: the reference: instructions read -/
def opsN (k : Nat) : Nat := ([0, 5, 3, 7, 7, 7, 7, 1, 7, 7, 4, 0] : List Nat).getD k 0
theorem bit_k : ∀ k, k < 12 → ∀ o, o < 3 → ((((nI (opsN k)) >>> ((nI o) &&& 31)) &&& nI 1) = nI 1 ↔ ¬ (fL k).getD o 0 = nI 45) := by decide +kernel
theorem set_k : ∀ k, k < 12 → ∀ o, o < 3 → ((k = 1 ∧ o = 2) ↔ (fL k).getD o 0 = nI 110) := by decide +kernel
section
variable {sc : SC} {h : AH} {φ : Nat → Int32} {ρ : Nat → Nat → Int32} {len j p pos m k f : Nat} {ft : Option Nat} {v x1 x : Int32}
theorem r_nameLength {H : AH} (hk : k < 12) : Call sc n_X10_nameLength [aI (nI k)] H = some (.inl (some (aI (nI (wL k).length))), H) := by
  rcases twelve hk with rfl | rfl | rfl | rfl | rfl | rfl | rfl | rfl | rfl | rfl | rfl | rfl <;> simp (decide := true) only [c0_X10_nameLength, e_X10_nameLength_0, e_X10_nameLength_6, e_X10_nameLength_12, e_X10_nameLength_16, e_X10_nameLength_21, e_X10_nameLength_26, e_X10_nameLength_32, e_X10_nameLength_38, e_X10_nameLength_44, e_X10_nameLength_48, e_X10_nameLength_49, if_true, if_false] <;> rfl
theorem r_operandsOf {H : AH} (hk : k < 12) : Call sc n_X10_operandsOf [aI (nI k)] H = some (.inl (some (aI (nI (opsN k)))), H) := by
  rw [c0_X10_operandsOf, e_X10_operandsOf_0]
  rcases twelve hk with rfl | rfl | rfl | rfl | rfl | rfl | rfl | rfl | rfl | rfl | rfl | rfl
  · exact e_X10_operandsOf_64 ..
  · exact e_X10_operandsOf_66 ..
  · exact e_X10_operandsOf_68 ..
  · exact e_X10_operandsOf_74 ..
  · exact e_X10_operandsOf_74 ..
  · exact e_X10_operandsOf_74 ..
  · exact e_X10_operandsOf_74 ..
  · exact e_X10_operandsOf_70 ..
  · exact e_X10_operandsOf_74 ..
  · exact e_X10_operandsOf_74 ..
  · exact e_X10_operandsOf_72 ..
  · exact e_X10_operandsOf_64 ..
theorem l_rops_f (hm : m < 61) (hf : f < 2 ^ 31) {y : Int32} : ∀ d o, o + d = 3 → ∀ g, ∃ g', Run sc n_X10_readInstruction 54 [aD 51, aI x1, aI y, aI (nI (4 * m)), aI (nI o)] none [] (rh h (rd φ pos (some f) m) (upr ρ 56 g)) = Run sc n_X10_readInstruction 119 [aD 51, aI x1, aI y, aI (nI (4 * m)), aI (nI 3)] none [] (rh h (rd φ pos (some f) m) (upr ρ 56 g')) ∧ (∀ j, (j < 4 * m + 1 ∨ 4 * m + 3 < j) → g' j = g j) := by
  intro d
  induction d with
  | zero =>
    intro o ho g
    have : o = 3 := by omega
    subst this
    refine ⟨g, ?_, fun j _ => rfl⟩
    rw [e_X10_readInstruction_54, if_pos (nI_le (Nat.le_refl _) (by omega))]
  | succ d ih =>
    intro o ho g
    have h1 : ¬ nI 3 ≤ nI o := nI_ge (by omega) (by omega)
    have hne : ¬ nI f = -1 := enc_ne hf
    obtain ⟨g', q1, q2⟩ := ih (o + 1) (by omega) (upd g (4 * m + 1 + o) (nI 0))
    refine ⟨g', ?_, fun j hj => by rw [q2 j hj, upd_eq, if_neg (by omega)]⟩
    rw [← q1, e_X10_readInstruction_54, if_neg h1]
    by_cases hb : (y >>> ((nI o) &&& 31)) &&& nI 1 = nI 1
    · simp only [e_X10_readInstruction_60, e_X10_readInstruction_64, e_X10_readInstruction_80, e_X10_readInstruction_84, e_X10_readInstruction_111, e_X10_readInstruction_112, e_X10_readInstruction_113, rf_0, rf_1, rf_2, rf_3, rf_4, rf_5, rf_6, rf_7, rf_8, rf_9, rf_10, rf_11, rf_12, rf_13, rf_14, rf_15, rf_16, rf_17, rf_18, rf_19, rf_20, rf_21, rf_22, rf_23, rf_24, rf_25, rf_26, rf_27, rf_28, rf_29, rf_30, rf_31, rf_32, rf_33, rf_34, rp_0, rp_2, rp_5, rp_7, rp_8, rp_9, rp_10, rp_12, rp_16, rp_20, rp_21, rp_22, rp_25, rp_27, rp_30, rp_32, bI_r, bO_some, bF_I, bF_D, bF_C, bC_v, pk_mul, nI_add, Option.toList, List.cons_append, List.nil_append, upd_eq, upr_eq, Nat.reduceEqDiff, reduceIte, rd_8, rd_9, rd_10, rd_12, rd_u9, rd_u10s, rd_u12, enc_n, enc_s, hb, not_true_eq_false, not_false_eq_true, if_true, if_false, hne, rs_57 (show 4 * m + 1 + o < 244 by omega), upr_upr]
    · simp only [e_X10_readInstruction_60, e_X10_readInstruction_64, e_X10_readInstruction_111, e_X10_readInstruction_112, e_X10_readInstruction_113, rf_0, rf_1, rf_2, rf_3, rf_4, rf_5, rf_6, rf_7, rf_8, rf_9, rf_10, rf_11, rf_12, rf_13, rf_14, rf_15, rf_16, rf_17, rf_18, rf_19, rf_20, rf_21, rf_22, rf_23, rf_24, rf_25, rf_26, rf_27, rf_28, rf_29, rf_30, rf_31, rf_32, rf_33, rf_34, rp_0, rp_2, rp_5, rp_7, rp_8, rp_9, rp_10, rp_12, rp_16, rp_20, rp_21, rp_22, rp_25, rp_27, rp_30, rp_32, bI_r, bO_some, bF_I, bF_D, bF_C, bC_v, pk_mul, nI_add, Option.toList, List.cons_append, List.nil_append, upd_eq, upr_eq, Nat.reduceEqDiff, reduceIte, rd_8, rd_9, rd_10, rd_12, rd_u9, rd_u10s, rd_u12, enc_n, enc_s, hb, not_false_eq_true, if_true, rs_57 (show 4 * m + 1 + o < 244 by omega), upr_upr]
theorem l_rops (h8 : φ 8 = nI len) (hl : len ≤ 120) (hm : m < 61) (hk : k < 12) : ∀ d o, o + d = 3 → ∀ pos vs g, pos ≤ len → (∀ i, i < o → g (4 * m + 1 + i) = vs i) → (∀ i, o ≤ i → vs i = 0) → ∃ g', Run sc n_X10_readInstruction 54 [aD 51, aI (nI k), aI (nI (opsN k)), aI (nI (4 * m)), aI (nI o)] none [] (rh h (rd φ pos none m) (upr ρ 56 g)) = Run sc n_X10_readInstruction 119 [aD 51, aI (nI k), aI (nI (opsN k)), aI (nI (4 * m)), aI (nI 3)] none [] (rh h (rd φ (opX (ρ 55) len k d o pos vs).2.1 (if (opX (ρ 55) len k d o pos vs).1 = true then none else some (opX (ρ 55) len k d o pos vs).2.1) m) (upr ρ 56 g')) ∧ ((opX (ρ 55) len k d o pos vs).1 = true → ∀ i, i < 3 → g' (4 * m + 1 + i) = (opX (ρ 55) len k d o pos vs).2.2 i) ∧ (∀ j, (j < 4 * m + 1 ∨ 4 * m + 3 < j) → g' j = g j) ∧ (opX (ρ 55) len k d o pos vs).2.1 ≤ len := by
  intro d
  induction d with
  | zero =>
    intro o ho pos vs g hp hg hv
    have : o = 3 := by omega
    subst this
    refine ⟨g, ?_, fun _ => hg, fun j _ => rfl, hp⟩
    rw [e_X10_readInstruction_54, if_pos (nI_le (Nat.le_refl _) (by omega))]
    rfl
  | succ d ih =>
    intro o ho pos vs g hp hg hv
    have h1 : ¬ nI 3 ≤ nI o := nI_ge (by omega) (by omega)
    have hbit := bit_k k hk o (by omega)
    have hset := set_k k hk o (by omega)
    have GU : ∀ (v : Int32) (vs' : Nat → Int32), vs' o = v → (∀ i, i < o → vs' i = vs i) → ∀ i, i < o + 1 → upd g (4 * m + 1 + o) v (4 * m + 1 + i) = vs' i := by
      intro v vs' h2 h3 i hi
      rw [upd_eq]
      by_cases hio : i = o
      · rw [if_pos (by omega), hio, h2]
      · rw [if_neg (by omega), h3 i (by omega)]
        exact hg i (by omega)
    rw [e_X10_readInstruction_54, if_neg h1]
    by_cases hd : (fL k).getD o 0 = nI 45
    · have hox : opX (ρ 55) len k (d + 1) o pos vs = opX (ρ 55) len k d (o + 1) pos vs := by
        show (if (fL k).getD o 0 = nI 45 then _ else _) = _
        rw [if_pos hd]
      rw [hox]
      obtain ⟨g', q1, q2, q3, q4⟩ := ih (o + 1) (by omega) pos vs (upd g (4 * m + 1 + o) (nI 0)) hp (GU (nI 0) vs (hv o (Nat.le_refl o)) (fun _ _ => rfl)) (fun i hi => hv i (by omega))
      refine ⟨g', ?_, q2, fun j hj => by rw [q3 j hj, upd_eq, if_neg (by omega)], q4⟩
      have hb : ¬ ((nI (opsN k)) >>> ((nI o) &&& 31)) &&& nI 1 = nI 1 := fun z => hbit.mp z hd
      rw [← q1]
      simp only [e_X10_readInstruction_60, e_X10_readInstruction_64, e_X10_readInstruction_111, e_X10_readInstruction_112, e_X10_readInstruction_113, rf_0, rf_1, rf_2, rf_3, rf_4, rf_5, rf_6, rf_7, rf_8, rf_9, rf_10, rf_11, rf_12, rf_13, rf_14, rf_15, rf_16, rf_17, rf_18, rf_19, rf_20, rf_21, rf_22, rf_23, rf_24, rf_25, rf_26, rf_27, rf_28, rf_29, rf_30, rf_31, rf_32, rf_33, rf_34, rp_0, rp_2, rp_5, rp_7, rp_8, rp_9, rp_10, rp_12, rp_16, rp_20, rp_21, rp_22, rp_25, rp_27, rp_30, rp_32, bI_r, bO_some, bF_I, bF_D, bF_C, bC_v, pk_mul, nI_add, Option.toList, List.cons_append, List.nil_append, upd_eq, upr_eq, Nat.reduceEqDiff, reduceIte, rd_8, rd_9, rd_10, rd_12, rd_u9, rd_u10s, rd_u12, enc_n, enc_s, hb, not_false_eq_true, if_true, rs_57 (show 4 * m + 1 + o < 244 by omega), upr_upr]
    · have hb : ((nI (opsN k)) >>> ((nI o) &&& 31)) &&& nI 1 = nI 1 := hbit.mpr hd
      have hq := r_readOperand (sc := sc) (h := h) (φ := φ) (ρ := upr ρ 56 g) (m := m) h8 hl hp (decide ((fL k).getD o 0 = nI 110))
      rw [show upr ρ 56 g 55 = ρ 55 from rfl] at hq
      obtain ⟨v, q1, q2, q3⟩ := hq
      have T : ∀ H, Run sc n_X10_readInstruction 88 [aD 51, aI (nI k), aI (nI (opsN k)), aI (nI (4 * m)), aI (nI o)] none [aI (nI (4 * m + 1 + o)), aD 56] H = Run sc n_X10_readInstruction 105 [aD 51, aI (nI k), aI (nI (opsN k)), aI (nI (4 * m)), aI (nI o)] none [aI (zI (decide ((fL k).getD o 0 = nI 110))), aD 51, aI (nI (4 * m + 1 + o)), aD 56] H := by
        intro H
        by_cases hn : (fL k).getD o 0 = nI 110
        · obtain ⟨rfl, rfl⟩ := hset.mpr hn
          rw [decide_eq_true hn]
          simp only [e_X10_readInstruction_88, e_X10_readInstruction_94, e_X10_readInstruction_100, zI_0, if_true, if_false, eq_self, not_true_eq_false, not_false_eq_true]
          rfl
        · rw [decide_eq_false hn]
          by_cases hk1 : k = 1
          · have ho2 : ¬ nI o = nI 2 := fun z => hn (hset.mp ⟨hk1, nI_inj (by omega) (by omega) z⟩)
            subst hk1
            simp only [e_X10_readInstruction_88, e_X10_readInstruction_94, e_X10_readInstruction_104, zI_0, if_true, if_false, eq_self, not_true_eq_false, not_false_eq_true, ho2]
            rfl
          · have hk2 : ¬ nI k = nI 1 := fun z => hk1 (nI_inj (by omega) (by omega) z)
            simp only [e_X10_readInstruction_88, e_X10_readInstruction_104, zI_0, if_true, if_false, eq_self, not_true_eq_false, not_false_eq_true, hk2]
            rfl
      have hrun : Run sc n_X10_readInstruction 60 [aD 51, aI (nI k), aI (nI (opsN k)), aI (nI (4 * m)), aI (nI o)] none [] (rh h (rd φ pos none m) (upr ρ 56 g)) = Run sc n_X10_readInstruction 54 [aD 51, aI (nI k), aI (nI (opsN k)), aI (nI (4 * m)), aI (nI (o + 1))] none [] (rh h (rd φ (roX (ρ 55) len pos (decide ((fL k).getD o 0 = nI 110))).2.1 (if (roX (ρ 55) len pos (decide ((fL k).getD o 0 = nI 110))).1 = true then none else some (roX (ρ 55) len pos (decide ((fL k).getD o 0 = nI 110))).2.1) m) (upr ρ 56 (upd g (4 * m + 1 + o) v))) := by
        simp only [e_X10_readInstruction_60, e_X10_readInstruction_64, e_X10_readInstruction_80, e_X10_readInstruction_84, e_X10_readInstruction_105, e_X10_readInstruction_108, e_X10_readInstruction_112, e_X10_readInstruction_113, rf_0, rf_1, rf_2, rf_3, rf_4, rf_5, rf_6, rf_7, rf_8, rf_9, rf_10, rf_11, rf_12, rf_13, rf_14, rf_15, rf_16, rf_17, rf_18, rf_19, rf_20, rf_21, rf_22, rf_23, rf_24, rf_25, rf_26, rf_27, rf_28, rf_29, rf_30, rf_31, rf_32, rf_33, rf_34, rp_0, rp_2, rp_5, rp_7, rp_8, rp_9, rp_10, rp_12, rp_16, rp_20, rp_21, rp_22, rp_25, rp_27, rp_30, rp_32, bI_r, bO_some, bF_I, bF_D, bF_C, bC_v, pk_mul, nI_add, Option.toList, List.cons_append, List.nil_append, upd_eq, upr_eq, Nat.reduceEqDiff, reduceIte, rd_8, rd_9, rd_10, rd_12, rd_u9, rd_u10s, rd_u12, enc_n, enc_s, hb, not_true_eq_false, if_false, T, q1, rs_57 (show 4 * m + 1 + o < 244 by omega), upr_upr]
      rw [hrun]
      by_cases hok : (roX (ρ 55) len pos (decide ((fL k).getD o 0 = nI 110))).1 = true
      · have hps : psX (ρ 55) len pos (nI 32) = true := by
          unfold roX at hok
          split at hok
          · rename_i z
            exact z
          · cases hok
        have hro : roX (ρ 55) len pos (decide ((fL k).getD o 0 = nI 110)) = nuX (ρ 55) len (pos + 1) (decide ((fL k).getD o 0 = nI 110)) := by
          unfold roX
          rw [if_pos hps]
        have q2' := q2 hok
        rw [hro] at hok q2' q3
        have hox : opX (ρ 55) len k (d + 1) o pos vs = opX (ρ 55) len k d (o + 1) (nuX (ρ 55) len (pos + 1) (decide ((fL k).getD o 0 = nI 110))).2.1 (upd vs o (nuX (ρ 55) len (pos + 1) (decide ((fL k).getD o 0 = nI 110))).2.2) := by
          show (if (fL k).getD o 0 = nI 45 then _ else _) = _
          rw [if_neg hd, if_pos hps, if_pos hok]
        rw [hox, hro, if_pos hok]
        obtain ⟨g', s1, s2, s3, s4⟩ := ih (o + 1) (by omega) (nuX (ρ 55) len (pos + 1) (decide ((fL k).getD o 0 = nI 110))).2.1 (upd vs o (nuX (ρ 55) len (pos + 1) (decide ((fL k).getD o 0 = nI 110))).2.2) (upd g (4 * m + 1 + o) v) q3 (GU v _ (by rw [upd_eq, if_pos rfl, q2']) (fun i hi => by rw [upd_eq, if_neg (by omega)])) (fun i hi => by rw [upd_eq, if_neg (by omega)]; exact hv i (by omega))
        exact ⟨g', s1, s2, fun j hj => by rw [s3 j hj, upd_eq, if_neg (by omega)], s4⟩
      · rw [if_neg hok]
        have hox : opX (ρ 55) len k (d + 1) o pos vs = (false, (roX (ρ 55) len pos (decide ((fL k).getD o 0 = nI 110))).2.1, vs) := by
          show (if (fL k).getD o 0 = nI 45 then _ else _) = _
          rw [if_neg hd]
          unfold roX at hok ⊢
          by_cases hps : psX (ρ 55) len pos (nI 32) = true
          · rw [if_pos hps] at hok
            rw [if_pos hps, if_pos hps, if_neg hok]
          · rw [if_neg hps, if_neg hps]
        rw [hox]
        obtain ⟨g', s1, s2⟩ := l_rops_f (sc := sc) (h := h) (φ := φ) (ρ := ρ) (pos := (roX (ρ 55) len pos (decide ((fL k).getD o 0 = nI 110))).2.1) (f := (roX (ρ 55) len pos (decide ((fL k).getD o 0 = nI 110))).2.1) (x1 := nI k) (y := nI (opsN k)) hm (by omega) d (o + 1) (by omega) (upd g (4 * m + 1 + o) v)
        exact ⟨g', s1, (fun z => by cases z), fun j hj => by rw [s2 j hj, upd_eq, if_neg (by omega)], q3⟩
theorem xS_app {n : Nat} {s s' : Nat → Int32} {k0 : Int32} {vs : Nat → Int32} (h0 : s' (4 * n) = k0) (h1 : ∀ i, i < 3 → s' (4 * n + 1 + i) = vs i) (h2 : ∀ j, j < 4 * n → s' j = s j) : xS (n + 1) s' = appX n (xS n s) (row k0 (vs 0) (vs 1) (vs 2) 0) := by
  funext i w
  show (if i < n + 1 ∧ w < 4 then s' (4 * i + w) else 0) = if i = n then (if w < 5 then row k0 (vs 0) (vs 1) (vs 2) 0 w else 0) else (if i < n ∧ w < 4 then s (4 * i + w) else 0)
  by_cases hi : i = n
  · subst hi
    rw [if_pos rfl]
    by_cases hw : w < 4
    · rw [if_pos ⟨by omega, hw⟩, if_pos (by omega)]
      have h4 : w = 0 ∨ w = 1 ∨ w = 2 ∨ w = 3 := by omega
      rcases h4 with rfl | rfl | rfl | rfl
      · exact h0
      · exact h1 0 (by omega)
      · exact h1 1 (by omega)
      · exact h1 2 (by omega)
    · rw [if_neg (fun z => hw z.2)]
      unfold row
      by_cases h5 : w = 4
      · subst h5
        rfl
      · rw [if_neg (by omega)]
  · rw [if_neg hi]
    by_cases hw : i < n ∧ w < 4
    · rw [if_pos ⟨by omega, hw.2⟩, if_pos hw]
      exact h2 _ (by omega)
    · rw [if_neg (by omega), if_neg hw]
theorem r_readInstruction (h8 : φ 8 = nI len) (hl : len ≤ 120) (hp : pos ≤ len) (hm : m < 61) : ∃ m' g', Call sc n_X10_readInstruction [aD 51] (rh h (rd φ pos none m) ρ) = some (.inl none, rh h (rd φ (inX (ρ 55) len pos).2.1 (if (inX (ρ 55) len pos).1 = true then none else some (inX (ρ 55) len pos).2.1) m') (upr ρ 56 g')) ∧ ((inX (ρ 55) len pos).1 = true → m' = m + 1 ∧ xS (m + 1) g' = appX m (xS m (ρ 56)) (row (nI (inX (ρ 55) len pos).2.2.1) ((inX (ρ 55) len pos).2.2.2 0) ((inX (ρ 55) len pos).2.2.2 1) ((inX (ρ 55) len pos).2.2.2 2) 0)) ∧ (inX (ρ 55) len pos).2.1 ≤ len := by
  have e1 := r_kindAt (sc := sc) (h := h) (φ := rd φ pos none m) (ρ := ρ) (len := len) (p := pos) (by exact h8) hl hp
  have f1 := r_fault (sc := sc) (h := h) (φ := φ) (ρ := ρ) (pos := pos) (ft := none) (m := m) (fun f z => by cases z)
  unfold inX
  cases hk : knX (ρ 55) len pos with
  | none =>
    rw [hk] at e1
    refine ⟨m, ρ 56, ?_, (fun z => by cases z), hp⟩
    rw [upr_self]
    simp only [c0_X10_readInstruction, e_X10_readInstruction_0, e_X10_readInstruction_5, e_X10_readInstruction_8, e_X10_readInstruction_14, e_X10_readInstruction_18, rf_0, rf_1, rf_2, rf_3, rf_4, rf_5, rf_6, rf_7, rf_8, rf_9, rf_10, rf_11, rf_12, rf_13, rf_14, rf_15, rf_16, rf_17, rf_18, rf_19, rf_20, rf_21, rf_22, rf_23, rf_24, rf_25, rf_26, rf_27, rf_28, rf_29, rf_30, rf_31, rf_32, rf_33, rf_34, rp_0, rp_2, rp_5, rp_7, rp_8, rp_9, rp_10, rp_12, rp_16, rp_20, rp_21, rp_22, rp_25, rp_27, rp_30, rp_32, bI_r, bO_some, bF_I, bF_D, bF_C, bC_v, pk_mul, nI_add, Option.toList, List.cons_append, List.nil_append, upd_eq, upr_eq, Nat.reduceEqDiff, reduceIte, rd_8, rd_9, rd_10, rd_12, rd_u9, rd_u10s, rd_u12, enc_n, enc_s, e1, zI_0, if_true, if_false, eq_self, not_true_eq_false, not_false_eq_true, f1, Option.getD_none, reduceCtorEq]
  | some k =>
    rw [hk] at e1
    have hk2 := knd_ok hk hp
    have hne : ¬ nI k = -1 := enc_ne (by omega)
    obtain ⟨g', q1, q2, q3, q4⟩ := l_rops (sc := sc) (h := h) (φ := φ) (ρ := ρ) (m := m) h8 hl hm hk2.1 3 0 rfl (pos + (wL k).length) (fun _ => 0) (upd (ρ 56) (4 * m) (nI k)) hk2.2.2 (fun i hi => by omega) (fun i _ => rfl)
    refine ⟨m + 1, g', ?_, fun hok => ⟨rfl, ?_⟩, q4⟩
    · simp only [c0_X10_readInstruction, e_X10_readInstruction_0, e_X10_readInstruction_5, e_X10_readInstruction_8, e_X10_readInstruction_19, e_X10_readInstruction_24, e_X10_readInstruction_28, e_X10_readInstruction_32, e_X10_readInstruction_36, e_X10_readInstruction_42, e_X10_readInstruction_48, e_X10_readInstruction_51, rf_0, rf_1, rf_2, rf_3, rf_4, rf_5, rf_6, rf_7, rf_8, rf_9, rf_10, rf_11, rf_12, rf_13, rf_14, rf_15, rf_16, rf_17, rf_18, rf_19, rf_20, rf_21, rf_22, rf_23, rf_24, rf_25, rf_26, rf_27, rf_28, rf_29, rf_30, rf_31, rf_32, rf_33, rf_34, rp_0, rp_2, rp_5, rp_7, rp_8, rp_9, rp_10, rp_12, rp_16, rp_20, rp_21, rp_22, rp_25, rp_27, rp_30, rp_32, bI_r, bO_some, bF_I, bF_D, bF_C, bC_v, pk_mul, nI_add, Option.toList, List.cons_append, List.nil_append, upd_eq, upr_eq, Nat.reduceEqDiff, reduceIte, rd_8, rd_9, rd_10, rd_12, rd_u9, rd_u10s, rd_u12, enc_n, enc_s, e1, zI_0, if_true, if_false, eq_self, not_true_eq_false, not_false_eq_true, hne, r_nameLength hk2.1, r_operandsOf hk2.1, rs_57 (show 4 * m < 244 by omega)]
      rw [q1]
      simp only [e_X10_readInstruction_119, e_X10_readInstruction_124, e_X10_readInstruction_129, rf_0, rf_1, rf_2, rf_3, rf_4, rf_5, rf_6, rf_7, rf_8, rf_9, rf_10, rf_11, rf_12, rf_13, rf_14, rf_15, rf_16, rf_17, rf_18, rf_19, rf_20, rf_21, rf_22, rf_23, rf_24, rf_25, rf_26, rf_27, rf_28, rf_29, rf_30, rf_31, rf_32, rf_33, rf_34, rp_0, rp_2, rp_5, rp_7, rp_8, rp_9, rp_10, rp_12, rp_16, rp_20, rp_21, rp_22, rp_25, rp_27, rp_30, rp_32, bI_r, bO_some, bF_I, bF_D, bF_C, bC_v, pk_mul, nI_add, Option.toList, List.cons_append, List.nil_append, upd_eq, upr_eq, Nat.reduceEqDiff, reduceIte, rd_8, rd_9, rd_10, rd_12, rd_u9, rd_u10s, rd_u12, enc_n, enc_s]
    · refine xS_app ?_ (q2 hok) (fun j hj => ?_)
      · rw [q3 _ (by omega), upd_eq, if_pos rfl]
      · rw [q3 j (by omega), upd_eq, if_neg (by omega)]
end
