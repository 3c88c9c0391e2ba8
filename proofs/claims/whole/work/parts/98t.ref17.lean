/-! PURE 67: the reference: drawn executions -/
def drF (y : Int32) : Int32 := ((y.toUInt32 >>> ((nI 16).toUInt32 &&& Int32.toUInt32 31)).toInt32) - ((y.toUInt32 >>> ((nI 16).toUInt32 &&& Int32.toUInt32 31)).toInt32) / (nI 10) * (nI 10)
def drS (s : Int32) : Nat → Int32
  | 0 => s
  | k + 1 => (drS s k * (nI 1103515245)) + (nI 12345)
def drR (s : Int32) (f : Nat → Int32) : Nat → Nat → Int32
  | 0 => f
  | k + 1 => upd (drR s f k) k (drF (drS s (k + 1)))
def drV (s : Int32) (j : Nat) : Int32 := drF (drS s (j + 1))
theorem drR_at (s : Int32) (f : Nat → Int32) : ∀ k j, j < k → drR s f k j = drV s j := by
  intro k
  induction k with
  | zero => exact fun j hj => absurd hj (Nat.not_lt_zero j)
  | succ k ih =>
    intro j hj
    show upd (drR s f k) k (drF (drS s (k + 1))) j = _
    rw [upd_eq]
    by_cases hk : j = k
    · rw [if_pos hk, hk]
      rfl
    · rw [if_neg hk]
      exact ih j (by omega)
def sdI (s : Int32) : Nat → Int32
  | 0 => s
  | i + 1 => drS (sdI s i) 24
theorem run_ag {X : Nat → Nat → Int32} {n L : Nat} {hs : Bool} {f f' : Nat → Int32} (hg : VG n X) (hf : ∀ j, j < 24 → f j = f' j) : AG (runX X n hs f L) (runX X n hs f' L) := cs_ag hg L _ _ ⟨rfl, rfl, hf, fun j hj => by
  have : j < 0 := hj
  omega, rfl, rfl⟩
theorem alB_sh (P : Nat → Bool) (a : Nat) : ∀ d i, alB P d (a + i) = alB (fun j => P (a + j)) d i := by
  intro d
  induction d with
  | zero => exact fun _ => rfl
  | succ d ih =>
    intro i
    simp only [alB]
    rw [Nat.add_assoc, ih (i + 1)]
/-- have two executions different effects -/
def dfB (sn n : Nat) (A B : XS) : Bool := decide (sn ≤ A.1) && (decide (n ≤ B.1) && !efX A.2.2.1 A.2.2.2.1 A.2.2.2.2.1 B.2.2.1 B.2.2.2.1 B.2.2.2.2.1)
def KF (φ φ' : Nat → Int32) : Prop := φ' 0 = φ 0 ∧ φ' 2 = φ 2 ∧ φ' 5 = φ 5 ∧ φ' 7 = φ 7 ∧ φ' 16 = φ 16 ∧ φ' 22 = φ 22 ∧ φ' 25 = φ 25 ∧ φ' 30 = φ 30 ∧ φ' 32 = φ 32
theorem KF.trans {φ φ' φ'' : Nat → Int32} (a : KF φ φ') (b : KF φ' φ'') : KF φ φ'' := ⟨b.1.trans a.1, b.2.1.trans a.2.1, b.2.2.1.trans a.2.2.1, b.2.2.2.1.trans a.2.2.2.1, b.2.2.2.2.1.trans a.2.2.2.2.1, b.2.2.2.2.2.1.trans a.2.2.2.2.2.1, b.2.2.2.2.2.2.1.trans a.2.2.2.2.2.2.1, b.2.2.2.2.2.2.2.1.trans a.2.2.2.2.2.2.2.1, b.2.2.2.2.2.2.2.2.trans a.2.2.2.2.2.2.2.2⟩
def KR (ρ ρ' : Nat → Nat → Int32) : Prop := ∀ q, (q < 56 ∨ (59 ≤ q ∧ q < 61) ∨ (63 ≤ q ∧ q < 65) ∨ 68 ≤ q) → ρ' q = ρ q
theorem KR.trans {ρ ρ' ρ'' : Nat → Nat → Int32} (a : KR ρ ρ') (b : KR ρ' ρ'') : KR ρ ρ'' := fun q hq => (b q hq).trans (a q hq)
theorem KR.up {ρ : Nat → Nat → Int32} {q : Nat} {f : Nat → Int32} (h1 : ¬ (q < 56 ∨ (59 ≤ q ∧ q < 61) ∨ (63 ≤ q ∧ q < 65) ∨ 68 ≤ q)) : KR ρ (upr ρ q f) := fun p hp => by
  rw [upr_eq, if_neg]
  intro z
  rw [z] at hp
  exact h1 hp
section
variable {sc : SC} {h : AH} {φ : Nat → Int32} {ρ : Nat → Nat → Int32} {v o f : Nat → Int32} {m st j n sn i a L : Nat} {x s : Int32} {X S : Nat → Nat → Int32} {hs : Bool} {v3 v4 v5 v6 : AV}
theorem l_draw (s : Int32) : ∀ d i, i + d = 24 → Run sc n_X10_draw 2 [aD 51, aI (nI i)] none [] (rh h (upd φ 27 (drS s i)) (upr ρ 65 (drR s (ρ 65) i))) = some (.inl none, rh h (upd φ 27 (drS s 24)) (upr ρ 65 (drR s (ρ 65) 24))) := by
  have hb : ∀ r : Option Res, bI (¬ nI 10 = 0) r = r := fun r => bI_t (by decide) r
  intro d
  induction d with
  | zero =>
    intro i hi
    have : i = 24 := by omega
    subst this
    rw [e_X10_draw_2, if_pos (nI_le (Nat.le_refl _) (by omega)), e_X10_draw_46]
  | succ d ih =>
    intro i hi
    have h1 : ¬ nI 24 ≤ nI i := nI_ge (by omega) (by omega)
    have h2 := ih (i + 1) (by omega)
    rw [← h2, e_X10_draw_2, if_neg h1]
    simp only [e_X10_draw_8, e_X10_draw_13, e_X10_draw_24, e_X10_draw_28, e_X10_draw_33, e_X10_draw_39, e_X10_draw_40, rf_0, rf_1, rf_2, rf_3, rf_4, rf_5, rf_6, rf_7, rf_8, rf_9, rf_10, rf_11, rf_12, rf_13, rf_14, rf_15, rf_16, rf_17, rf_18, rf_19, rf_20, rf_21, rf_22, rf_23, rf_24, rf_25, rf_26, rf_27, rf_28, rf_29, rf_30, rf_31, rf_32, rf_33, rf_34, rp_0, rp_2, rp_5, rp_7, rp_8, rp_9, rp_10, rp_12, rp_16, rp_20, rp_21, rp_22, rp_25, rp_27, rp_30, rp_32, bI_r, bO_some, bF_I, bF_D, bF_C, bC_v, pk_mul, nI_add, Option.toList, List.cons_append, List.nil_append, upd_eq, upr_eq, Nat.reduceEqDiff, reduceIte, hb, rs_66 (show i < 24 by omega), upr_upr, upd_upd]
    rfl
theorem r_draw (h27 : φ 27 = s) : Call sc n_X10_draw [aD 51] (rh h φ ρ) = some (.inl none, rh h (upd φ 27 (drS s 24)) (upr ρ 65 (drR s (ρ 65) 24))) := by
  have q1 := l_draw (sc := sc) (h := h) (φ := φ) (ρ := ρ) s 24 0 rfl
  have e1 : upd φ 27 (drS s 0) = φ := by
    show upd φ 27 s = φ
    rw [← h27, upd_self]
  rw [e1, show drR s (ρ 65) 0 = ρ 65 from rfl, upr_self] at q1
  rw [c0_X10_draw, e_X10_draw_0]
  exact q1
theorem l_dcp : ∀ d i, i + d = 24 → Run sc n_X10_runsDrawn 2 [aD 51, aI x, aI (nI i)] none [] (rh h φ (upr ρ 61 (cpy (ρ 65) (ρ 61) 0 0 i))) = Run sc n_X10_runsDrawn 26 [aD 51, aI x, aI (nI 24)] none [] (rh h φ (upr ρ 61 (cpy (ρ 65) (ρ 61) 0 0 24))) := by
  intro d
  induction d with
  | zero =>
    intro i hi
    have : i = 24 := by omega
    subst this
    rw [e_X10_runsDrawn_2, if_pos (nI_le (Nat.le_refl _) (by omega))]
  | succ d ih =>
    intro i hi
    have h1 : ¬ nI 24 ≤ nI i := nI_ge (by omega) (by omega)
    rw [e_X10_runsDrawn_2, if_neg h1]
    simp only [e_X10_runsDrawn_8, e_X10_runsDrawn_12, e_X10_runsDrawn_17, e_X10_runsDrawn_19, e_X10_runsDrawn_20, rf_0, rf_1, rf_2, rf_3, rf_4, rf_5, rf_6, rf_7, rf_8, rf_9, rf_10, rf_11, rf_12, rf_13, rf_14, rf_15, rf_16, rf_17, rf_18, rf_19, rf_20, rf_21, rf_22, rf_23, rf_24, rf_25, rf_26, rf_27, rf_28, rf_29, rf_30, rf_31, rf_32, rf_33, rf_34, rp_0, rp_2, rp_5, rp_7, rp_8, rp_9, rp_10, rp_12, rp_16, rp_20, rp_21, rp_22, rp_25, rp_27, rp_30, rp_32, bI_r, bO_some, bF_I, bF_D, bF_C, bC_v, pk_mul, nI_add, Option.toList, List.cons_append, List.nil_append, upd_eq, upr_eq, Nat.reduceEqDiff, reduceIte, rl_66 (show i < 24 by omega), rs_62 (show i < 24 by omega), cpy_00, upr_upr]
    exact ih (i + 1) (by omega)
theorem r_runsDrawn (hp : PP sc h φ (upr ρ 61 (cpy (ρ 65) (ρ 61) 0 0 24)) hs n X) (hm : (hs = true → ρ 53 0 = nI n) ∧ (hs = false → φ 2 = nI n)) (hf : ∀ j, j < 24 → ρ 65 j = f j) : ∃ v' o' m' st', Call sc n_X10_runsDrawn [aD 51, aI (zI hs)] (rh h φ ρ) = some (.inl (some (aI (zI (decide (n ≤ (runX X n hs f 300).1))))), rS h φ (upr ρ 61 (cpy (ρ 65) (ρ 61) 0 0 24)) v' o' m' st') ∧ (n ≤ (runX X n hs f 300).1 → (∀ j, j < 24 → v' j = (runX X n hs f 300).2.2.1 j) ∧ (∀ j, j < m' → o' j = (runX X n hs f 300).2.2.2.1 j) ∧ m' = (runX X n hs f 300).2.2.2.2.1 ∧ st' = (runX X n hs f 300).2.2.2.2.2 ∧ m' ≤ 300) := by
  have q1 := l_dcp (sc := sc) (h := h) (φ := φ) (ρ := ρ) (x := zI hs) 24 0 rfl
  rw [cpy_0, upr_self] at q1
  obtain ⟨v', o', m', st', q2, q3⟩ := r_runs (L := 300) hp hm (by omega)
  rw [show (upr ρ 61 (cpy (ρ 65) (ρ 61) 0 0 24)) 61 = cpy (ρ 65) (ρ 61) 0 0 24 from rfl, show (upr ρ 61 (cpy (ρ 65) (ρ 61) 0 0 24)) 62 = ρ 62 from rfl] at q2 q3
  have hag := cs_ag (n := n) (hs := hs) hp.2.1.2.1 300 (0, none, cpy (ρ 65) (ρ 61) 0 0 24, ρ 62, 0, 0) (0, none, f, fun _ => 0, 0, 0) ⟨rfl, rfl, (fun j hj => by
    show cpy (ρ 65) (ρ 61) 0 0 24 j = f j
    rw [cpy_eq, if_pos (by omega), ← hf j hj]
    congr 1
    omega), (fun j hj => by
    have : j < 0 := hj
    omega), rfl, rfl⟩
  obtain ⟨a1, a2, a3, a4, a5, a6⟩ := hag
  have hbd := cs_bd (X := X) (n := n) (hs := hs) 300 (0, none, cpy (ρ 65) (ρ 61) 0 0 24, ρ 62, 0, 0) (Nat.le_refl 0)
  rw [show runX X n hs f 300 = csX X n hs 300 (0, none, f, fun _ => 0, 0, 0) from rfl]
  rw [← a1, ← a5, ← a6]
  generalize csX X n hs 300 (0, none, f, fun _ => 0, 0, 0) = F at *
  generalize csX X n hs 300 (0, none, cpy (ρ 65) (ρ 61) 0 0 24, ρ 62, 0, 0) = G at *
  refine ⟨v', o', m', st', ?_, fun hen => ?_⟩
  · rw [c0_X10_runsDrawn, e_X10_runsDrawn_0, q1]
    simp only [e_X10_runsDrawn_26, bI_r, q2, bO_some, bF_I, bF_D, bF_C, bC_v, pk_mul, nI_add, Option.toList, List.cons_append, List.nil_append, e_X10_runsDrawn_34]
    exact bI_t (zI_ret _) _
  · have q3' := q3 hen
    have hG2 : G.2.2.1 = v' ∧ G.2.2.2.1 = o' ∧ G.2.2.2.2.1 = m' ∧ G.2.2.2.2.2 = st' := by
      rw [q3']
      exact ⟨rfl, rfl, rfl, rfl⟩
    obtain ⟨g1, g2, g3, g4⟩ := hG2
    refine ⟨fun j hj => by rw [← a3 j hj, g1], fun j hj => ?_, g3.symm, g4.symm, ?_⟩
    · rw [← g3] at hj
      rw [← a4 j hj, g2]
    · have := hbd.1
      have := hbd.2.1
      have h7 : (0, (none : Option Nat), cpy (ρ 65) (ρ 61) 0 0 24, ρ 62, 0, 0).2.2.2.2.2 = 0 := rfl
      omega
theorem l_fo (h20 : m ≤ 2000) : ∀ d i, i + d = m → Run sc n_X10_isDifferent 17 [aD 51, aI (nI m), aI (nI i), v3] none [] (rh h φ (upr ρ 67 (cpy (ρ 62) (ρ 67) 0 0 i))) = Run sc n_X10_isDifferent 40 [aD 51, aI (nI m), aI (nI m), v3] none [] (rh h φ (upr ρ 67 (cpy (ρ 62) (ρ 67) 0 0 m))) := by
  intro d
  induction d with
  | zero =>
    intro i hi
    have : i = m := by omega
    subst this
    rw [e_X10_isDifferent_17, if_pos (nI_le (Nat.le_refl _) (by omega))]
  | succ d ih =>
    intro i hi
    have h1 : ¬ nI m ≤ nI i := nI_ge (by omega) (by omega)
    rw [e_X10_isDifferent_17, if_neg h1]
    simp only [e_X10_isDifferent_22, e_X10_isDifferent_26, e_X10_isDifferent_31, e_X10_isDifferent_33, e_X10_isDifferent_34, rf_0, rf_1, rf_2, rf_3, rf_4, rf_5, rf_6, rf_7, rf_8, rf_9, rf_10, rf_11, rf_12, rf_13, rf_14, rf_15, rf_16, rf_17, rf_18, rf_19, rf_20, rf_21, rf_22, rf_23, rf_24, rf_25, rf_26, rf_27, rf_28, rf_29, rf_30, rf_31, rf_32, rf_33, rf_34, rp_0, rp_2, rp_5, rp_7, rp_8, rp_9, rp_10, rp_12, rp_16, rp_20, rp_21, rp_22, rp_25, rp_27, rp_30, rp_32, bI_r, bO_some, bF_I, bF_D, bF_C, bC_v, pk_mul, nI_add, Option.toList, List.cons_append, List.nil_append, upd_eq, upr_eq, Nat.reduceEqDiff, reduceIte, rl_63 (show i < 2000 by omega), rs_68 (show i < 2000 by omega), cpy_00, upr_upr]
    exact ih (i + 1) (by omega)
theorem l_fc {x1 : Int32} : ∀ d i, i + d = 16 → Run sc n_X10_isDifferent 42 [aD 51, aI x1, aI (nI i), v3] none [] (rh h φ (upr ρ 66 (cpy (ρ 61) (ρ 66) 8 0 i))) = Run sc n_X10_isDifferent 69 [aD 51, aI x1, aI (nI 16), v3] none [] (rh h φ (upr ρ 66 (cpy (ρ 61) (ρ 66) 8 0 16))) := by
  intro d
  induction d with
  | zero =>
    intro i hi
    have : i = 16 := by omega
    subst this
    rw [e_X10_isDifferent_42, if_pos (nI_le (Nat.le_refl _) (by omega))]
  | succ d ih =>
    intro i hi
    have h1 : ¬ nI 16 ≤ nI i := nI_ge (by omega) (by omega)
    rw [e_X10_isDifferent_42, if_neg h1]
    simp only [e_X10_isDifferent_48, e_X10_isDifferent_52, e_X10_isDifferent_57, e_X10_isDifferent_62, e_X10_isDifferent_63, rf_0, rf_1, rf_2, rf_3, rf_4, rf_5, rf_6, rf_7, rf_8, rf_9, rf_10, rf_11, rf_12, rf_13, rf_14, rf_15, rf_16, rf_17, rf_18, rf_19, rf_20, rf_21, rf_22, rf_23, rf_24, rf_25, rf_26, rf_27, rf_28, rf_29, rf_30, rf_31, rf_32, rf_33, rf_34, rp_0, rp_2, rp_5, rp_7, rp_8, rp_9, rp_10, rp_12, rp_16, rp_20, rp_21, rp_22, rp_25, rp_27, rp_30, rp_32, bI_r, bO_some, bF_I, bF_D, bF_C, bC_v, pk_mul, nI_add, Option.toList, List.cons_append, List.nil_append, upd_eq, upr_eq, Nat.reduceEqDiff, reduceIte, rl_62 (show 8 + i < 24 by omega), rs_67 (show i < 16 by omega), cpy_s0, upr_upr]
    exact ih (i + 1) (by omega)
theorem l_d95 (hm : m ≤ 2000) : ∀ d i, i + d = m → ∀ b : Bool, ∃ x3 : Int32, Run sc n_X10_isDifferent 95 [aD 51, aI (nI m), aI (zI b), aI (nI i)] none [] (rh h φ ρ) = Run sc n_X10_isDifferent 131 [aD 51, aI (nI m), aI (zI (b || !alB (fun j => decide (ρ 67 j = ρ 62 j)) d i)), aI x3] none [] (rh h φ ρ) := by
  intro d
  induction d with
  | zero =>
    intro i hi b
    have : i = m := by omega
    subst this
    refine ⟨nI i, ?_⟩
    rw [e_X10_isDifferent_95, if_pos (nI_le (Nat.le_refl _) (by omega))]
    simp only [alB, Bool.not_true, Bool.or_false]
  | succ d ih =>
    intro i hi b
    have h1 : ¬ nI m ≤ nI i := nI_ge (by omega) (by omega)
    rw [e_X10_isDifferent_95, if_neg h1]
    cases b
    · simp only [e_X10_isDifferent_100, e_X10_isDifferent_104, e_X10_isDifferent_108, e_X10_isDifferent_110, e_X10_isDifferent_114, rf_0, rf_1, rf_2, rf_3, rf_4, rf_5, rf_6, rf_7, rf_8, rf_9, rf_10, rf_11, rf_12, rf_13, rf_14, rf_15, rf_16, rf_17, rf_18, rf_19, rf_20, rf_21, rf_22, rf_23, rf_24, rf_25, rf_26, rf_27, rf_28, rf_29, rf_30, rf_31, rf_32, rf_33, rf_34, rp_0, rp_2, rp_5, rp_7, rp_8, rp_9, rp_10, rp_12, rp_16, rp_20, rp_21, rp_22, rp_25, rp_27, rp_30, rp_32, bI_r, bO_some, bF_I, bF_D, bF_C, bC_v, pk_mul, nI_add, Option.toList, List.cons_append, List.nil_append, upd_eq, upr_eq, Nat.reduceEqDiff, reduceIte, zI_0, if_true, if_false, eq_self, not_true_eq_false, not_false_eq_true, rl_68 (show i < 2000 by omega), rl_63 (show i < 2000 by omega), Bool.false_or, alB]
      by_cases hq : ρ 67 i = ρ 62 i
      · obtain ⟨x3, q1⟩ := ih (i + 1) (by omega) false
        refine ⟨x3, ?_⟩
        rw [decide_eq_true hq, Bool.true_and]
        rw [Bool.false_or] at q1
        rw [e_X10_isDifferent_116, if_pos hq, e_X10_isDifferent_123, e_X10_isDifferent_124, nI_add]
        exact q1
      · obtain ⟨x3, q1⟩ := ih (i + 1) (by omega) true
        refine ⟨x3, ?_⟩
        rw [decide_eq_false hq, Bool.false_and]
        rw [Bool.true_or] at q1
        rw [e_X10_isDifferent_116, if_neg hq, e_X10_isDifferent_119, e_X10_isDifferent_124, nI_add]
        exact q1
    · refine ⟨nI i, ?_⟩
      simp only [e_X10_isDifferent_100, zI_0, if_true, if_false, eq_self, not_true_eq_false, not_false_eq_true, reduceCtorEq, Bool.true_or]
theorem l_d133 {x1 : Int32} : ∀ d i, i + d = 16 → ∀ b : Bool, Run sc n_X10_isDifferent 133 [aD 51, aI x1, aI (zI b), aI (nI i)] none [] (rh h φ ρ) = some (.inl (some (aI (zI (b || !alB (fun j => decide (ρ 66 j = ρ 61 (8 + j))) d i)))), rh h φ ρ) := by
  intro d
  induction d with
  | zero =>
    intro i hi b
    have : i = 16 := by omega
    subst this
    rw [e_X10_isDifferent_133, if_pos (nI_le (Nat.le_refl _) (by omega)), e_X10_isDifferent_173]
    simp only [alB, Bool.not_true, Bool.or_false]
    exact bI_t (zI_ret _) _
  | succ d ih =>
    intro i hi b
    have h1 : ¬ nI 16 ≤ nI i := nI_ge (by omega) (by omega)
    have qt := ih (i + 1) (by omega) true
    rw [Bool.true_or] at qt
    rw [e_X10_isDifferent_133, if_neg h1]
    cases b
    · simp only [e_X10_isDifferent_139, e_X10_isDifferent_143, e_X10_isDifferent_147, e_X10_isDifferent_149, e_X10_isDifferent_153, rf_0, rf_1, rf_2, rf_3, rf_4, rf_5, rf_6, rf_7, rf_8, rf_9, rf_10, rf_11, rf_12, rf_13, rf_14, rf_15, rf_16, rf_17, rf_18, rf_19, rf_20, rf_21, rf_22, rf_23, rf_24, rf_25, rf_26, rf_27, rf_28, rf_29, rf_30, rf_31, rf_32, rf_33, rf_34, rp_0, rp_2, rp_5, rp_7, rp_8, rp_9, rp_10, rp_12, rp_16, rp_20, rp_21, rp_22, rp_25, rp_27, rp_30, rp_32, bI_r, bO_some, bF_I, bF_D, bF_C, bC_v, pk_mul, nI_add, Option.toList, List.cons_append, List.nil_append, upd_eq, upr_eq, Nat.reduceEqDiff, reduceIte, zI_0, if_true, if_false, eq_self, not_true_eq_false, not_false_eq_true, rl_67 (show i < 16 by omega), rl_62 (show 8 + i < 24 by omega), Bool.false_or, alB]
      by_cases hq : ρ 66 i = ρ 61 (8 + i)
      · have qf := ih (i + 1) (by omega) false
        rw [Bool.false_or] at qf
        rw [decide_eq_true hq, Bool.true_and, e_X10_isDifferent_158, if_pos hq, e_X10_isDifferent_165, e_X10_isDifferent_166, nI_add]
        exact qf
      · rw [decide_eq_false hq, Bool.false_and, e_X10_isDifferent_158, if_neg hq, e_X10_isDifferent_161, e_X10_isDifferent_166, nI_add]
        exact qt
    · simp only [e_X10_isDifferent_139, e_X10_isDifferent_161, e_X10_isDifferent_166, bO_some, bF_I, bF_D, bF_C, bC_v, pk_mul, nI_add, Option.toList, List.cons_append, List.nil_append, zI_0, if_true, if_false, eq_self, not_true_eq_false, not_false_eq_true, reduceCtorEq, Bool.true_or]
      exact qt
end
