/-! PURE 66: the reference runs -/
abbrev I1 (n : Nat) (x : Int32) : Prop := ¬ x < nI 1 ∧ ¬ nI n < x
theorem has_ex1 {n : Nat} {x : Int32} (hn : n < 2 ^ 31) (h1 : I1 n x) : ∃ b, 1 ≤ b ∧ b ≤ n ∧ x = nI b := by
  have h2 := h1.2
  rw [Int32.lt_iff_toInt_lt, nI_toInt hn] at h2
  have h3 := h1.1
  rw [Int32.lt_iff_toInt_lt, nI_toInt (by omega)] at h3
  refine ⟨x.toInt.toNat, by omega, by omega, ?_⟩
  apply Int32.toInt_inj.mp
  rw [nI_toInt (by omega)]
  omega
theorem I1_nI {n b : Nat} (hb1 : 1 ≤ b) (hb : b ≤ n) (hn : n < 2 ^ 31) : I1 n (nI b) := ⟨Int32.not_lt.mpr (nI_le hb1 (by omega)), Int32.not_lt.mpr (nI_le hb hn)⟩
theorem cs1_bd {X : Nat → Nat → Int32} {n : Nat} {hs : Bool} {s : XS} (hm : s.2.2.2.2.1 ≤ s.2.2.2.2.2) : (cs1 X n hs s).2.2.2.2.1 ≤ (cs1 X n hs s).2.2.2.2.2 ∧ (cs1 X n hs s).2.2.2.2.2 = s.2.2.2.2.2 + 1 := by
  unfold cs1
  split
  · split <;> exact ⟨by simp only; omega, rfl⟩
  · split
    · exact ⟨by simp only; omega, rfl⟩
    · refine ⟨?_, rfl⟩
      show pfN X s.1 s.2.2.2.2.1 ≤ s.2.2.2.2.2 + 1
      unfold pfN
      split <;> omega
theorem cs_bd {X : Nat → Nat → Int32} {n : Nat} {hs : Bool} : ∀ d (s : XS), s.2.2.2.2.1 ≤ s.2.2.2.2.2 → (csX X n hs d s).2.2.2.2.1 ≤ (csX X n hs d s).2.2.2.2.2 ∧ (csX X n hs d s).2.2.2.2.2 ≤ s.2.2.2.2.2 + d ∧ (¬ n ≤ (csX X n hs d s).1 → (csX X n hs d s).2.2.2.2.2 = s.2.2.2.2.2 + d) := by
  intro d
  induction d with
  | zero => exact fun s h1 => ⟨h1, Nat.le_refl _, fun _ => rfl⟩
  | succ d ih =>
    intro s h1
    by_cases ha : s.1 < n
    · rw [cs_step ha]
      have h2 := cs1_bd (X := X) (n := n) (hs := hs) h1
      obtain ⟨h3, h4, h5⟩ := ih _ h2.1
      rw [h2.2] at h4 h5
      exact ⟨h3, by omega, fun z => by rw [h5 z]; omega⟩
    · rw [cs_end ha]
      exact ⟨h1, by omega, fun z => by omega⟩
section
variable {sc : SC} {h : AH} {φ : Nat → Int32} {ρ : Nat → Nat → Int32} {v o : Nat → Int32} {m st j n sn i a L : Nat} {x : Int32} {X : Nat → Nat → Int32} {hs : Bool} {v3 v4 v5 v6 : AV}
theorem VG_of {X : Nat → Nat → Int32} (hw : WF n X) : VG n X := ⟨fun i hi => by
  obtain ⟨a, b, h1⟩ := hw.2.2.2.2.2.1 i hi
  exact ⟨a, b, h1⟩, fun i hi => (hw.2.2.2.2.2.2 i hi).1⟩
theorem PP_t (h0 : ρ 53 0 = nI n) (hn : n ≤ 60) (hw : WF n (xM n (ρ 53))) : PP sc h φ ρ true n (xM n (ρ 53)) := by
  have e1 : ∀ v o m st i w, i < n → w < 5 → Call sc n_X10_at [aD 51, aI (nI i), aI (nI w)] (rS h φ ρ v o m st) = some (.inl (some (aI (xM n (ρ 53) i w))), rS h φ ρ v o m st) := fun v o m st i w hi hw5 => c_at (sc := sc) (FO_r (h := h) (φ := upd (upd φ 20 (nI m)) 21 (nI st)) (ρ := upr (upr ρ 61 v) 62 o) h0 hn) hi hw5
  refine ⟨hn, ⟨hw.1, VG_of hw, hw.2.1⟩, fun _ => hw, fun v o m st i w hi hw4 => ?_, fun _ v o m st i hi => e1 v o m st i 4 hi (by omega)⟩
  simp only [c0_X10_partOf, e_X10_partOf_0, e_X10_partOf_4, e_X10_partOf_10, e_X10_partOf_13, e_X10_partOf_17, e_X10_partOf_23, rS_ok, rS_2, rS_18, rS_19, rS_20, rS_21, rS_p21, rS_p20, bO_some, bF_I, bF_D, bF_C, bC_v, pk_mul, nI_add, Option.toList, List.cons_append, List.nil_append, zI_0, if_true, if_false, eq_self, not_true_eq_false, not_false_eq_true, reduceCtorEq, e1 v o m st i w hi (by omega)]
theorem PP_f (hn : sn ≤ 30) (hv : VK sn (xS sn (ρ 52))) (hg : VG sn (xS sn (ρ 52))) (ht : VT sn (xS sn (ρ 52))) : PP sc h φ ρ false sn (xS sn (ρ 52)) := by
  refine ⟨by omega, ⟨hv, hg, ht⟩, (fun z => by cases z), fun v o m st i w hi hw4 => ?_, fun z => by cases z⟩
  have g1 : getF sc (rS h φ ρ v o m st) (aD 51) 12 1 = some (aD 52) := rf_1
  have l1 : ldI sc (rS h φ ρ v o m st) (fun t => t == 0) (aD 52) (nI (4 * i + w)) = some (ρ 52 (4 * i + w)) := rl_53 (by omega)
  simp only [c0_X10_partOf, e_X10_partOf_0, e_X10_partOf_4, e_X10_partOf_10, e_X10_partOf_13, e_X10_partOf_17, e_X10_partOf_23, rS_ok, rS_2, rS_18, rS_19, rS_20, rS_21, rS_p21, rS_p20, bO_some, bF_I, bF_D, bF_C, bC_v, pk_mul, nI_add, Option.toList, List.cons_append, List.nil_append, zI_0, if_true, if_false, eq_self, not_true_eq_false, not_false_eq_true, g1, l1, xS_at (s := ρ 52) hi hw4]
theorem rS_start : rh h (upd (upd φ 20 (nI 0)) 21 (nI 0)) ρ = rS h φ ρ (ρ 61) (ρ 62) 0 0 := by
  unfold rS
  rw [upr_self, upr_self]
theorem r_runs (hp : PP sc h φ ρ hs n X) (hm : (hs = true → ρ 53 0 = nI n) ∧ (hs = false → φ 2 = nI n)) (hL : L ≤ 2000) : ∃ v' o' m' st', Call sc n_X10_runs [aD 51, aI (zI hs), aI (nI L)] (rh h φ ρ) = some (.inl (some (aI (zI (decide (n ≤ (csX X n hs L (0, none, ρ 61, ρ 62, 0, 0)).1))))), rS h φ ρ v' o' m' st') ∧ (n ≤ (csX X n hs L (0, none, ρ 61, ρ 62, 0, 0)).1 → (csX X n hs L (0, none, ρ 61, ρ 62, 0, 0)).2.2 = (v', o', m', st')) := by
  obtain ⟨v', o', m', st', q1, q2⟩ := l_runs (sc := sc) hp hL L L (Nat.le_refl L) 0 (ρ 61) (ρ 62) 0 0 aU aU (by omega) (by omega) (by omega)
  refine ⟨v', o', m', st', ?_, q2⟩
  rw [← q1]
  cases hs
  · have f2 := hm.2 rfl
    simp only [c0_X10_runs, e_X10_runs_0, e_X10_runs_11, e_X10_runs_15, e_X10_runs_21, e_X10_runs_26, rf_0, rf_1, rf_2, rf_3, rf_4, rf_5, rf_6, rf_7, rf_8, rf_9, rf_10, rf_11, rf_12, rf_13, rf_14, rf_15, rf_16, rf_17, rf_18, rf_19, rf_20, rf_21, rf_22, rf_23, rf_24, rf_25, rf_26, rf_27, rf_28, rf_29, rf_30, rf_31, rf_32, rf_33, rf_34, rp_0, rp_2, rp_5, rp_7, rp_8, rp_9, rp_10, rp_12, rp_16, rp_20, rp_21, rp_22, rp_25, rp_27, rp_30, rp_32, bI_r, bO_some, bF_I, bF_D, bF_C, bC_v, pk_mul, nI_add, Option.toList, List.cons_append, List.nil_append, upd_eq, upr_eq, Nat.reduceEqDiff, reduceIte, zI_0, if_true, if_false, eq_self, not_true_eq_false, not_false_eq_true, f2]
    rw [rS_start]
  · have f54 := hm.1 rfl
    have em := c_entryMany (sc := sc) (FO_r (h := h) (φ := φ) f54 hp.1)
    simp only [c0_X10_runs, e_X10_runs_0, e_X10_runs_4, e_X10_runs_8, e_X10_runs_15, e_X10_runs_21, e_X10_runs_26, rf_0, rf_1, rf_2, rf_3, rf_4, rf_5, rf_6, rf_7, rf_8, rf_9, rf_10, rf_11, rf_12, rf_13, rf_14, rf_15, rf_16, rf_17, rf_18, rf_19, rf_20, rf_21, rf_22, rf_23, rf_24, rf_25, rf_26, rf_27, rf_28, rf_29, rf_30, rf_31, rf_32, rf_33, rf_34, rp_0, rp_2, rp_5, rp_7, rp_8, rp_9, rp_10, rp_12, rp_16, rp_20, rp_21, rp_22, rp_25, rp_27, rp_30, rp_32, bI_r, bO_some, bF_I, bF_D, bF_C, bC_v, pk_mul, nI_add, Option.toList, List.cons_append, List.nil_append, upd_eq, upr_eq, Nat.reduceEqDiff, reduceIte, zI_0, if_true, if_false, eq_self, not_true_eq_false, not_false_eq_true, reduceCtorEq, em]
    rw [rS_start]
theorem l_rcp1 {x2 : Int32} : ∀ d i, i + d = 24 → Run sc n_X10_run 24 [aD 51, aI x, aI x2, aI (nI i)] none [] (rh h φ (upr ρ 61 (cpy (ρ 60) (ρ 61) 0 0 i))) = Run sc n_X10_run 48 [aD 51, aI x, aI x2, aI (nI 24)] none [] (rh h φ (upr ρ 61 (cpy (ρ 60) (ρ 61) 0 0 24))) := by
  intro d
  induction d with
  | zero =>
    intro i hi
    have : i = 24 := by omega
    subst this
    rw [e_X10_run_24, if_pos (nI_le (Nat.le_refl _) (by omega))]
  | succ d ih =>
    intro i hi
    have h1 : ¬ nI 24 ≤ nI i := nI_ge (by omega) (by omega)
    rw [e_X10_run_24, if_neg h1]
    simp only [e_X10_run_30, e_X10_run_34, e_X10_run_39, e_X10_run_41, e_X10_run_42, rf_0, rf_1, rf_2, rf_3, rf_4, rf_5, rf_6, rf_7, rf_8, rf_9, rf_10, rf_11, rf_12, rf_13, rf_14, rf_15, rf_16, rf_17, rf_18, rf_19, rf_20, rf_21, rf_22, rf_23, rf_24, rf_25, rf_26, rf_27, rf_28, rf_29, rf_30, rf_31, rf_32, rf_33, rf_34, rp_0, rp_2, rp_5, rp_7, rp_8, rp_9, rp_10, rp_12, rp_16, rp_20, rp_21, rp_22, rp_25, rp_27, rp_30, rp_32, bI_r, bO_some, bF_I, bF_D, bF_C, bC_v, pk_mul, nI_add, Option.toList, List.cons_append, List.nil_append, upd_eq, upr_eq, Nat.reduceEqDiff, reduceIte, rl_61 (show i < 24 by omega), rs_62 (show i < 24 by omega), cpy_00, upr_upr]
    exact ih (i + 1) (by omega)
theorem l_rcp2 {x2 : Int32} : ∀ d i, i + d = 24 → Run sc n_X10_run 70 [aD 51, aI x, aI x2, aI (nI i)] none [] (rh h φ (upr ρ 63 (cpy (ρ 61) (ρ 63) 0 0 i))) = Run sc n_X10_run 94 [aD 51, aI x, aI x2, aI (nI 24)] none [] (rh h φ (upr ρ 63 (cpy (ρ 61) (ρ 63) 0 0 24))) := by
  intro d
  induction d with
  | zero =>
    intro i hi
    have : i = 24 := by omega
    subst this
    rw [e_X10_run_70, if_pos (nI_le (Nat.le_refl _) (by omega))]
  | succ d ih =>
    intro i hi
    have h1 : ¬ nI 24 ≤ nI i := nI_ge (by omega) (by omega)
    rw [e_X10_run_70, if_neg h1]
    simp only [e_X10_run_76, e_X10_run_80, e_X10_run_85, e_X10_run_87, e_X10_run_88, rf_0, rf_1, rf_2, rf_3, rf_4, rf_5, rf_6, rf_7, rf_8, rf_9, rf_10, rf_11, rf_12, rf_13, rf_14, rf_15, rf_16, rf_17, rf_18, rf_19, rf_20, rf_21, rf_22, rf_23, rf_24, rf_25, rf_26, rf_27, rf_28, rf_29, rf_30, rf_31, rf_32, rf_33, rf_34, rp_0, rp_2, rp_5, rp_7, rp_8, rp_9, rp_10, rp_12, rp_16, rp_20, rp_21, rp_22, rp_25, rp_27, rp_30, rp_32, bI_r, bO_some, bF_I, bF_D, bF_C, bC_v, pk_mul, nI_add, Option.toList, List.cons_append, List.nil_append, upd_eq, upr_eq, Nat.reduceEqDiff, reduceIte, rl_62 (show i < 24 by omega), rs_64 (show i < 24 by omega), cpy_00, upr_upr]
    exact ih (i + 1) (by omega)
theorem l_rcp3 {x2 : Int32} (h20 : φ 20 = nI m) (hm : m ≤ 2000) : ∀ d i, i + d = m → Run sc n_X10_run 96 [aD 51, aI x, aI x2, aI (nI i)] none [] (rh h φ (upr ρ 64 (cpy (ρ 62) (ρ 64) 0 0 i))) = Run sc n_X10_run 122 [aD 51, aI x, aI x2, aI (nI m)] none [] (rh h φ (upr ρ 64 (cpy (ρ 62) (ρ 64) 0 0 m))) := by
  intro d
  induction d with
  | zero =>
    intro i hi
    have : i = m := by omega
    subst this
    simp only [e_X10_run_96, e_X10_run_101, rf_0, rf_1, rf_2, rf_3, rf_4, rf_5, rf_6, rf_7, rf_8, rf_9, rf_10, rf_11, rf_12, rf_13, rf_14, rf_15, rf_16, rf_17, rf_18, rf_19, rf_20, rf_21, rf_22, rf_23, rf_24, rf_25, rf_26, rf_27, rf_28, rf_29, rf_30, rf_31, rf_32, rf_33, rf_34, rp_0, rp_2, rp_5, rp_7, rp_8, rp_9, rp_10, rp_12, rp_16, rp_20, rp_21, rp_22, rp_25, rp_27, rp_30, rp_32, bI_r, bO_some, bF_I, bF_D, bF_C, bC_v, pk_mul, nI_add, Option.toList, List.cons_append, List.nil_append, upd_eq, upr_eq, Nat.reduceEqDiff, reduceIte, h20, nI_le (Nat.le_refl i) (show i < 2 ^ 31 by omega), if_true]
  | succ d ih =>
    intro i hi
    have h1 : ¬ nI m ≤ nI i := nI_ge (by omega) (by omega)
    rw [e_X10_run_96]
    simp only [e_X10_run_101, e_X10_run_104, e_X10_run_108, e_X10_run_113, e_X10_run_115, e_X10_run_116, rf_0, rf_1, rf_2, rf_3, rf_4, rf_5, rf_6, rf_7, rf_8, rf_9, rf_10, rf_11, rf_12, rf_13, rf_14, rf_15, rf_16, rf_17, rf_18, rf_19, rf_20, rf_21, rf_22, rf_23, rf_24, rf_25, rf_26, rf_27, rf_28, rf_29, rf_30, rf_31, rf_32, rf_33, rf_34, rp_0, rp_2, rp_5, rp_7, rp_8, rp_9, rp_10, rp_12, rp_16, rp_20, rp_21, rp_22, rp_25, rp_27, rp_30, rp_32, bI_r, bO_some, bF_I, bF_D, bF_C, bC_v, pk_mul, nI_add, Option.toList, List.cons_append, List.nil_append, upd_eq, upr_eq, Nat.reduceEqDiff, reduceIte, h20, h1, if_false, rl_63 (show i < 2000 by omega), rs_65 (show i < 2000 by omega), cpy_00, upr_upr]
    exact ih (i + 1) (by omega)
def cdRu (n : Nat) (x : Int32) (R : XS) : Nat := if I1 2000 x then (if n ≤ R.1 then 0 else 2) else 1
theorem r_run (hp : ∀ φ' ρ', φ' 2 = φ 2 → ρ' 52 = ρ 52 → ρ' 53 = ρ 53 → PP sc h φ' ρ' hs n X) (hm : (hs = true → ρ 53 0 = nI n) ∧ (hs = false → φ 2 = nI n)) (x : Int32) : ∃ b φ' ρ', Call sc n_X10_run [aD 51, aI (zI hs), aI x] (rh h φ ρ) = some (.inl (some (aI b)), rh h φ' ρ') ∧ φ' 0 = nI (cdRu n x (runX X n hs (ρ 60) x.toNatClampNeg)) ∧ (cdRu n x (runX X n hs (ρ 60) x.toNatClampNeg) = 0 → b = nI (runX X n hs (ρ 60) x.toNatClampNeg).2.2.2.2.2 ∧ φ' 22 = zI true ∧ φ' 25 = nI (runX X n hs (ρ 60) x.toNatClampNeg).2.2.2.2.1 ∧ (∀ j, j < 24 → ρ' 63 j = (runX X n hs (ρ 60) x.toNatClampNeg).2.2.1 j) ∧ (∀ j, j < (runX X n hs (ρ 60) x.toNatClampNeg).2.2.2.2.1 → ρ' 64 j = (runX X n hs (ρ 60) x.toNatClampNeg).2.2.2.1 j)) ∧ (¬ cdRu n x (runX X n hs (ρ 60) x.toNatClampNeg) = 0 → φ' 22 = φ 22 ∧ φ' 25 = φ 25 ∧ ρ' 63 = ρ 63 ∧ ρ' 64 = ρ 64) ∧ (φ' 2 = φ 2 ∧ φ' 5 = φ 5 ∧ φ' 7 = φ 7 ∧ φ' 16 = φ 16 ∧ φ' 30 = φ 30 ∧ φ' 32 = φ 32) ∧ (∀ q, q < 61 ∨ 64 < q → ρ' q = ρ q) := by
  unfold cdRu
  by_cases h1 : I1 2000 x
  · rw [if_pos h1]
    obtain ⟨L, hL1, hL, rfl⟩ := has_ex1 (by omega) h1
    rw [nI_clamp (show L < 2 ^ 31 by omega)]
    have q1 := l_rcp1 (sc := sc) (h := h) (φ := upd φ 0 (nI 0)) (ρ := ρ) (x := zI hs) (x2 := nI L) 24 0 rfl
    rw [cpy_0, upr_self] at q1
    have hpp := hp (upd φ 0 (nI 0)) (upr ρ 61 (cpy (ρ 60) (ρ 61) 0 0 24)) rfl rfl rfl
    obtain ⟨v', o', m', st', q2, q3⟩ := r_runs (L := L) hpp hm hL
    have hag := cs_ag (n := n) (hs := hs) hpp.2.1.2.1 L (0, none, cpy (ρ 60) (ρ 61) 0 0 24, ρ 62, 0, 0) (0, none, ρ 60, fun _ => 0, 0, 0) ⟨rfl, rfl, (fun j hj => by
      show cpy (ρ 60) (ρ 61) 0 0 24 j = ρ 60 j
      rw [cpy_eq, if_pos (by omega)]
      congr 1
      omega), (fun j hj => by
      have : j < 0 := hj
      omega), rfl, rfl⟩
    obtain ⟨a1, a2, a3, a4, a5, a6⟩ := hag
    have hbd := cs_bd (X := X) (n := n) (hs := hs) L (0, none, cpy (ρ 60) (ρ 61) 0 0 24, ρ 62, 0, 0) (Nat.le_refl 0)
    have hst : (upr ρ 61 (cpy (ρ 60) (ρ 61) 0 0 24)) 61 = cpy (ρ 60) (ρ 61) 0 0 24 := rfl
    have hst2 : (upr ρ 61 (cpy (ρ 60) (ρ 61) 0 0 24)) 62 = ρ 62 := rfl
    rw [hst, hst2] at q2 q3
    rw [show runX X n hs (ρ 60) L = csX X n hs L (0, none, ρ 60, fun _ => 0, 0, 0) from rfl]
    rw [← a1, ← a5, ← a6]
    generalize hF : csX X n hs L (0, none, ρ 60, fun _ => 0, 0, 0) = F at *
    generalize hG : csX X n hs L (0, none, cpy (ρ 60) (ρ 61) 0 0 24, ρ 62, 0, 0) = G at *
    have q0 : Call sc n_X10_run [aD 51, aI (zI hs), aI (nI L)] (rh h φ ρ) = bC (Call sc n_X10_runs [aD 51, aI (zI hs), aI (nI L)] (rh h (upd φ 0 (nI 0)) (upr ρ 61 (cpy (ρ 60) (ρ 61) 0 0 24)))) (fun v z => Run sc n_X10_run 54 [aD 51, aI (zI hs), aI (nI L), aI (nI 24)] none (v.toList ++ []) z) (fun E z => some (.inr E, z)) := by
      simp only [c0_X10_run, e_X10_run_0, e_X10_run_5, e_X10_run_13, e_X10_run_22, rf_0, rf_1, rf_2, rf_3, rf_4, rf_5, rf_6, rf_7, rf_8, rf_9, rf_10, rf_11, rf_12, rf_13, rf_14, rf_15, rf_16, rf_17, rf_18, rf_19, rf_20, rf_21, rf_22, rf_23, rf_24, rf_25, rf_26, rf_27, rf_28, rf_29, rf_30, rf_31, rf_32, rf_33, rf_34, rp_0, rp_2, rp_5, rp_7, rp_8, rp_9, rp_10, rp_12, rp_16, rp_20, rp_21, rp_22, rp_25, rp_27, rp_30, rp_32, bI_r, bO_some, bF_I, bF_D, bF_C, bC_v, pk_mul, nI_add, Option.toList, List.cons_append, List.nil_append, upd_eq, upr_eq, Nat.reduceEqDiff, reduceIte, c_isIn, decide_eq_true h1, zI_0, if_true, if_false, eq_self, not_true_eq_false, not_false_eq_true, reduceCtorEq]
      rw [q1, e_X10_run_48, bI_r]
      rfl
    by_cases hen : n ≤ G.1
    · rw [if_pos hen]
      have q3' := q3 hen
      have e4 := rp_22 (h := h) (φ := upd (upd (upd φ 0 (nI 0)) 20 (nI m')) 21 (nI st')) (ρ := upr (upr (upr ρ 61 (cpy (ρ 60) (ρ 61) 0 0 24)) 61 v') 62 o') true
      rw [show zI true = nI 1 from rfl] at e4
      have hG2 : G.2.2.1 = v' ∧ G.2.2.2.1 = o' ∧ G.2.2.2.2.1 = m' ∧ G.2.2.2.2.2 = st' := by
        rw [q3']
        exact ⟨rfl, rfl, rfl, rfl⟩
      obtain ⟨g1, g2, g3, g4⟩ := hG2
      have hm2 : m' ≤ 2000 := by
        have := hbd.1
        have := hbd.2.1
        rw [← g3]
        have h7 : (0, (none : Option Nat), cpy (ρ 60) (ρ 61) 0 0 24, ρ 62, 0, 0).2.2.2.2.2 = 0 := rfl
        omega
      have q5 := l_rcp2 (sc := sc) (h := h) (φ := upd (upd (upd (upd φ 0 (nI 0)) 20 (nI m')) 21 (nI st')) 22 (nI 1)) (ρ := upr (upr (upr ρ 61 (cpy (ρ 60) (ρ 61) 0 0 24)) 61 v') 62 o') (x := zI hs) (x2 := nI L) 24 0 rfl
      rw [cpy_0, upr_self] at q5
      have q6 := l_rcp3 (sc := sc) (h := h) (φ := upd (upd (upd (upd φ 0 (nI 0)) 20 (nI m')) 21 (nI st')) 22 (nI 1)) (ρ := upr (upr (upr (upr ρ 61 (cpy (ρ 60) (ρ 61) 0 0 24)) 61 v') 62 o') 63 (cpy v' (ρ 63) 0 0 24)) (x := zI hs) (x2 := nI L) (m := m') rfl hm2 m' 0 (by omega)
      rw [cpy_0, upr_self] at q6
      refine ⟨nI st', upd (upd (upd (upd (upd φ 0 (nI 0)) 20 (nI m')) 21 (nI st')) 22 (nI 1)) 25 (nI m'), upr (upr (upr (upr (upr ρ 61 (cpy (ρ 60) (ρ 61) 0 0 24)) 61 v') 62 o') 63 (cpy v' (ρ 63) 0 0 24)) 64 (cpy o' (ρ 64) 0 0 m'), ?_, rfl, fun _ => ⟨by rw [g4], rfl, by rw [g3]; rfl, fun j hj => ?_, fun j hj => ?_⟩, fun z => absurd rfl z, ⟨rfl, rfl, rfl, rfl, rfl, rfl⟩, fun q hq => ?_⟩
      · rw [q0, q2, decide_eq_true hen]
        unfold rS
        simp only [bC_v, Option.toList, List.cons_append, List.nil_append, e_X10_run_54, e_X10_run_63, e_X10_run_68, zI_0, if_true, if_false, eq_self, not_true_eq_false, not_false_eq_true, reduceCtorEq, e4, bO_some]
        rw [q5, e_X10_run_94]
        refine Eq.trans q6 ?_
        simp only [e_X10_run_122, e_X10_run_127, e_X10_run_130, e_X10_run_134, rf_0, rf_1, rf_2, rf_3, rf_4, rf_5, rf_6, rf_7, rf_8, rf_9, rf_10, rf_11, rf_12, rf_13, rf_14, rf_15, rf_16, rf_17, rf_18, rf_19, rf_20, rf_21, rf_22, rf_23, rf_24, rf_25, rf_26, rf_27, rf_28, rf_29, rf_30, rf_31, rf_32, rf_33, rf_34, rp_0, rp_2, rp_5, rp_7, rp_8, rp_9, rp_10, rp_12, rp_16, rp_20, rp_21, rp_22, rp_25, rp_27, rp_30, rp_32, bI_r, bO_some, bF_I, bF_D, bF_C, bC_v, pk_mul, nI_add, Option.toList, List.cons_append, List.nil_append, upd_eq, upr_eq, Nat.reduceEqDiff, reduceIte]
      · show cpy v' (ρ 63) 0 0 24 j = F.2.2.1 j
        rw [← a3 j hj, g1, cpy_eq, if_pos (by omega)]
        congr 1
        omega
      · show cpy o' (ρ 64) 0 0 m' j = F.2.2.2.1 j
        rw [← a4 j hj, g2, cpy_eq, if_pos (by rw [g3] at hj; omega)]
        congr 1
        omega
      · simp only [upr_eq]
        rw [if_neg (by omega), if_neg (by omega), if_neg (by omega), if_neg (by omega), if_neg (by omega)]
    · rw [if_neg hen]
      refine ⟨nI 0, upd (upd (upd (upd φ 0 (nI 0)) 20 (nI m')) 21 (nI st')) 0 (nI 2), upr (upr (upr ρ 61 (cpy (ρ 60) (ρ 61) 0 0 24)) 61 v') 62 o', ?_, rfl, (fun z => by cases z), fun _ => ⟨rfl, rfl, rfl, rfl⟩, ⟨rfl, rfl, rfl, rfl, rfl, rfl⟩, fun q hq => ?_⟩
      · rw [q0, q2, decide_eq_false hen]
        unfold rS
        simp only [bC_v, Option.toList, List.cons_append, List.nil_append, e_X10_run_54, e_X10_run_57, e_X10_run_62, zI_0, if_true, if_false, eq_self, not_true_eq_false, not_false_eq_true, bI_r, fail_r]
      · simp only [upr_eq]
        rw [if_neg (by omega), if_neg (by omega), if_neg (by omega)]
  · rw [if_neg h1]
    refine ⟨nI 0, upd φ 0 (nI 1), ρ, ?_, rfl, (fun z => by cases z), fun _ => ⟨rfl, rfl, rfl, rfl⟩, ⟨rfl, rfl, rfl, rfl, rfl, rfl⟩, fun _ _ => rfl⟩
    simp only [c0_X10_run, e_X10_run_0, e_X10_run_5, e_X10_run_13, e_X10_run_16, e_X10_run_21, rf_0, rf_1, rf_2, rf_3, rf_4, rf_5, rf_6, rf_7, rf_8, rf_9, rf_10, rf_11, rf_12, rf_13, rf_14, rf_15, rf_16, rf_17, rf_18, rf_19, rf_20, rf_21, rf_22, rf_23, rf_24, rf_25, rf_26, rf_27, rf_28, rf_29, rf_30, rf_31, rf_32, rf_33, rf_34, rp_0, rp_2, rp_5, rp_7, rp_8, rp_9, rp_10, rp_12, rp_16, rp_20, rp_21, rp_22, rp_25, rp_27, rp_30, rp_32, bI_r, bO_some, bF_I, bF_D, bF_C, bC_v, pk_mul, nI_add, Option.toList, List.cons_append, List.nil_append, upd_eq, upr_eq, Nat.reduceEqDiff, reduceIte, c_isIn, decide_eq_false h1, zI_0, if_true, if_false, eq_self, not_true_eq_false, not_false_eq_true, fail_r, upd_upd]
end
