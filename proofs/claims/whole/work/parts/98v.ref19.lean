/-! PURE 69: floating point: quotients are numbers; the reference: mean steps, the filled share -/
theorem enc_fin (s : Bool) (c : Nat) (q : Int) (hc : c < 2 ^ 53) (hq : q ≤ 971) : FP.Core.encode FP.Core.b64 (.fin s c q) % 2 ^ 63 ≤ 2047 * 2 ^ 52 ∧ FP.Core.encode FP.Core.b64 (.fin s c q) < 2 ^ 64 := by
  show (if c < 2 ^ 52 then FP.Core.assemble FP.Core.b64 s 0 c else FP.Core.assemble FP.Core.b64 s ((q - (-1074)).toNat + 1) (c - 2 ^ 52)) % 2 ^ 63 ≤ 2047 * 2 ^ 52 ∧ (if c < 2 ^ 52 then FP.Core.assemble FP.Core.b64 s 0 c else FP.Core.assemble FP.Core.b64 s ((q - (-1074)).toNat + 1) (c - 2 ^ 52)) < 2 ^ 64
  have ha : ∀ e t, FP.Core.assemble FP.Core.b64 s e t = (s.toNat * 2 ^ 11 + e) * 2 ^ 52 + t := fun _ _ => rfl
  have hs : s.toNat ≤ 1 := by cases s <;> decide
  rw [ha, ha]
  split <;> omega
theorem enc_inf (s : Bool) : FP.Core.encode FP.Core.b64 (.inf s) % 2 ^ 63 ≤ 2047 * 2 ^ 52 ∧ FP.Core.encode FP.Core.b64 (.inf s) < 2 ^ 64 := by
  cases s <;> decide +kernel
theorem enc_ratio (s : Bool) (num den : Nat) (e : Int) : FP.Core.encode FP.Core.b64 (FP.Core.roundRatio FP.Core.b64 s num den e) % 2 ^ 63 ≤ 2047 * 2 ^ 52 ∧ FP.Core.encode FP.Core.b64 (FP.Core.roundRatio FP.Core.b64 s num den e) < 2 ^ 64 := by
  unfold FP.Core.roundRatio
  split
  · exact enc_fin s 0 _ (by omega) (by decide)
  · unfold FP.Core.roundAt
    generalize FP.Core.quantum FP.Core.b64 num den e = q
    generalize FP.Core.nearest (FP.Core.unitsNum num e q) (FP.Core.unitsDen den e q) = c
    unfold FP.Core.settle
    have hqm : FP.Core.b64.qmax = 971 := by decide
    split
    · rename_i hc
      unfold FP.Core.bound
      rw [hqm]
      split
      · rename_i hq
        exact enc_fin s c q hc hq
      · exact enc_inf s
    · unfold FP.Core.bound
      rw [hqm]
      split
      · rename_i hq
        exact enc_fin s _ _ (by decide) hq
      · exact enc_inf s
def finB (d : FP.Core.Datum) : Bool := match d with
  | .fin _ _ _ => true
  | _ => false
def fnzB (d : FP.Core.Datum) : Bool := match d with
  | .fin _ c _ => !Nat.beq c 0
  | _ => false
theorem i2d_fin2 : ∀ i, i < 76 → ∀ j, j < 200 → finB (FP.Core.decode FP.Core.b64 (FP.i2d (nI (200 * i + j))).toNat) = true := by decide +kernel
theorem i2d_finB (a : Nat) (ha : a < 15001) : finB (FP.Core.decode FP.Core.b64 (FP.i2d (nI a)).toNat) = true := by
  have h1 := i2d_fin2 (a / 200) (by omega) (a % 200) (by omega)
  rw [Nat.div_add_mod] at h1
  exact h1
theorem i2d_fnzB : ∀ a, a < 51 → 0 < a → fnzB (FP.Core.decode FP.Core.b64 (FP.i2d (nI a)).toNat) = true := by decide +kernel
theorem and_mask64 (x : UInt64) (n : Nat) (hx : x.toNat = n) (hn : n % 2 ^ 63 ≤ 2047 * 2 ^ 52) : x &&& 0x7fffffffffffffff ≤ 0x7ff0000000000000 := by
  rw [UInt64.le_iff_toNat_le, UInt64.toNat_and]
  have h1 : (0x7fffffffffffffff : UInt64).toNat = 2 ^ 63 - 1 := by decide
  have h2 : (0x7ff0000000000000 : UInt64).toNat = 2047 * 2 ^ 52 := by decide
  rw [h1, h2, Nat.and_two_pow_sub_one_eq_mod, hx]
  exact hn
theorem ddiv_num {a b : Nat} (ha : a < 15001) (hb : b < 51) (hb0 : 0 < b) : FP.ddiv (FP.i2d (nI a)) (FP.i2d (nI b)) &&& 0x7fffffffffffffff ≤ 0x7ff0000000000000 := by
  have h1 := i2d_finB a ha
  have h2 := i2d_fnzB b hb hb0
  have h3 : FP.ddiv (FP.i2d (nI a)) (FP.i2d (nI b)) = UInt64.ofNat (FP.Core.encode FP.Core.b64 (FP.Core.quotient FP.Core.b64 (FP.Core.decode FP.Core.b64 (FP.i2d (nI a)).toNat) (FP.Core.decode FP.Core.b64 (FP.i2d (nI b)).toNat))) := rfl
  rw [h3]
  generalize FP.Core.decode FP.Core.b64 (FP.i2d (nI a)).toNat = da at *
  generalize FP.Core.decode FP.Core.b64 (FP.i2d (nI b)).toNat = db at *
  cases da with
  | nan => cases h1
  | inf s => cases h1
  | fin s c q =>
    cases db with
    | nan => cases h2
    | inf s => cases h2
    | fin t d r =>
      have hd : ¬ d = 0 := by
        intro z
        subst z
        cases h2
      have hq : FP.Core.quotient FP.Core.b64 (.fin s c q) (.fin t d r) = FP.Core.roundRatio FP.Core.b64 (s != t) c d (q - r) := by
        show (if d = 0 then _ else _) = _
        rw [if_neg hd]
      rw [hq]
      have h4 := enc_ratio (s != t) c d (q - r)
      refine and_mask64 _ _ ?_ h4.1
      rw [UInt64.toNat_ofNat']
      exact Nat.mod_eq_of_lt h4.2
theorem fdiv_num : ∀ a, a < 61 → ∀ b, b < 61 → 0 < b → FP.fdiv (FP.i2f (nI a)) (FP.i2f (nI b)) &&& 0x7fffffff ≤ 0x7f800000 := by decide +kernel
section
variable {sc : SC} {h : AH} {φ : Nat → Int32} {ρ : Nat → Nat → Int32} {v o f : Nat → Int32} {m st j n sn i a L : Nat} {x s : Int32} {X S : Nat → Nat → Int32} {hs : Bool} {v3 v4 v5 v6 : AV}
def msT (n : Nat) (X : Nat → Nat → Int32) (s : Int32) : Nat := (runX X n true (drV s) 300).2.2.2.2.2
theorem ms_le (n : Nat) (X : Nat → Nat → Int32) (s : Int32) : msT n X s ≤ 300 ∧ (¬ n ≤ (runX X n true (drV s) 300).1 → msT n X s = 300) := by
  have h1 := cs_bd (X := X) (n := n) (hs := true) 300 (0, none, drV s, fun _ => 0, 0, 0) (Nat.le_refl 0)
  have h2 := h1.2.1
  have h3 := h1.2.2
  have h7 : (0, (none : Option Nat), drV s, fun _ : Nat => (0 : Int32), 0, 0).2.2.2.2.2 = 0 := rfl
  rw [h7, Nat.zero_add] at h2 h3
  exact ⟨h2, h3⟩
theorem sm_le (n : Nat) (X : Nat → Nat → Int32) (s0 : Int32) : ∀ i, smN (fun k => msT n X (sdI s0 k)) i ≤ 300 * i := by
  intro i
  induction i with
  | zero => exact Nat.le_refl 0
  | succ i ih =>
    have h1 := (ms_le n X (sdI s0 i)).1
    show smN _ i + msT n X (sdI s0 i) ≤ _
    omega
theorem l_mean (h0 : ρ 53 0 = nI n) (hn : n ≤ 60) (hw : WF n (xM n (ρ 53))) (hL : L ≤ 50) (hL0 : 0 < L) (s0 : Int32) : ∀ d i, i + d = L → ∀ φ' ρ', KF φ φ' → KR ρ ρ' → φ' 27 = sdI s0 i → ∃ φ'' ρ'', Run sc n_X10_meanSteps 32 [aD 51, aI x, aI (nI L), aI (nI (smN (fun k => msT n (xM n (ρ 53)) (sdI s0 k)) i)), aI (nI i)] none [] (rh h φ' ρ') = some (.inl (some (aE (FP.ddiv (FP.i2d (nI (smN (fun k => msT n (xM n (ρ 53)) (sdI s0 k)) L))) (FP.i2d (nI L))))), rh h φ'' ρ'') ∧ KF φ φ'' ∧ KR ρ ρ'' := by
  intro d
  induction d with
  | zero =>
    intro i hi φ' ρ' k1 k2 h27
    have : i = L := by omega
    subst this
    have h3 := sm_le n (xM n (ρ 53)) s0 i
    have h4 := ddiv_num (a := smN (fun k => msT n (xM n (ρ 53)) (sdI s0 k)) i) (b := i) (by omega) (by omega) hL0
    refine ⟨φ', ρ', ?_, k1, k2⟩
    rw [e_X10_meanSteps_32, if_pos (nI_le (Nat.le_refl _) (by omega)), e_X10_meanSteps_69, bI_t h4, e_X10_meanSteps_74]
  | succ d ih =>
    intro i hi φ' ρ' k1 k2 h27
    have h1 : ¬ nI L ≤ nI i := nI_ge (by omega) (by omega)
    have h3 := sm_le n (xM n (ρ 53)) s0 i
    have h4 := ms_le n (xM n (ρ 53)) (sdI s0 i)
    have q1 := r_draw (sc := sc) (h := h) (ρ := ρ') h27
    have e54 : (upr ρ' 65 (drR (sdI s0 i) (ρ' 65) 24)) 53 = ρ 53 := k2 53 (by omega)
    have hdr : ∀ j, j < 24 → (upr ρ' 65 (drR (sdI s0 i) (ρ' 65) 24)) 65 j = drV (sdI s0 i) j := fun j hj => drR_at _ _ 24 j hj
    have k5 : KR ρ (upr ρ' 65 (drR (sdI s0 i) (ρ' 65) 24)) := k2.trans (KR.up (by omega))
    generalize hρ2 : upr ρ' 65 (drR (sdI s0 i) (ρ' 65) 24) = ρ2 at *
    have hpp : PP sc h (upd φ' 27 (drS (sdI s0 i) 24)) (upr ρ2 61 (cpy (ρ2 65) (ρ2 61) 0 0 24)) true n (xM n (ρ 53)) := by
      have z := PP_t (sc := sc) (h := h) (φ := upd φ' 27 (drS (sdI s0 i) 24)) (ρ := upr ρ2 61 (cpy (ρ2 65) (ρ2 61) 0 0 24)) (n := n) (by rw [upr_eq, if_neg (by omega), e54]; exact h0) hn (by rw [upr_eq, if_neg (by omega), e54]; exact hw)
      rw [upr_eq, if_neg (by omega), e54] at z
      exact z
    obtain ⟨v', o', m', st', q2, q3⟩ := r_runsDrawn (f := drV (sdI s0 i)) hpp ⟨fun _ => by rw [e54]; exact h0, (fun z => by cases z)⟩ hdr
    rw [show zI true = nI 1 from rfl] at q2
    have k3 : KF φ (upd (upd (upd φ' 27 (drS (sdI s0 i) 24)) 20 (nI m')) 21 (nI st')) := k1.trans ⟨rfl, rfl, rfl, rfl, rfl, rfl, rfl, rfl, rfl⟩
    have k4 : KR ρ (upr (upr (upr ρ2 61 (cpy (ρ2 65) (ρ2 61) 0 0 24)) 61 v') 62 o') := ((k5.trans (KR.up (by omega))).trans (KR.up (by omega))).trans (KR.up (by omega))
    obtain ⟨φ'', ρ'', s1, s2, s3⟩ := ih (i + 1) (by omega) _ _ k3 k4 rfl
    refine ⟨φ'', ρ'', ?_, s2, s3⟩
    have hsm : smN (fun k => msT n (xM n (ρ 53)) (sdI s0 k)) (i + 1) = smN (fun k => msT n (xM n (ρ 53)) (sdI s0 k)) i + msT n (xM n (ρ 53)) (sdI s0 i) := rfl
    rw [← s1, hsm, e_X10_meanSteps_32, if_neg h1]
    simp only [e_X10_meanSteps_38, e_X10_meanSteps_42, bI_r, q1, q2, bO_some, bF_I, bF_D, bF_C, bC_v, pk_mul, nI_add, Option.toList, List.cons_append, List.nil_append, e_X10_meanSteps_48]
    by_cases hen : n ≤ (runX (xM n (ρ 53)) n true (drV (sdI s0 i)) 300).1
    · have h5 : st' = msT n (xM n (ρ 53)) (sdI s0 i) := (q3 hen).2.2.2.1
      rw [decide_eq_true hen]
      simp only [zI_0, if_true, if_false, eq_self, not_true_eq_false, not_false_eq_true, reduceCtorEq, e_X10_meanSteps_51, rS_21, bF_I, e_X10_meanSteps_55, e_X10_meanSteps_61, nI_add]
      rw [h5]
      rfl
    · rw [decide_eq_false hen, h4.2 hen]
      simp only [zI_0, if_true, if_false, eq_self, not_true_eq_false, not_false_eq_true, e_X10_meanSteps_58, e_X10_meanSteps_61, nI_add]
      rfl
theorem r_meanSteps (h0 : ρ 53 0 = nI n) (hn : n ≤ 60) (hw : WF n (xM n (ρ 53))) (s x : Int32) : ∃ b φ' ρ', Call sc n_X10_meanSteps [aD 51, aI s, aI x] (rh h φ ρ) = some (.inl (some (aE b)), rh h φ' ρ') ∧ KF (upd φ 0 (nI (cd50 x))) φ' ∧ KR ρ ρ' ∧ (cd50 x = 0 → b = FP.ddiv (FP.i2d (nI (smN (fun k => msT n (xM n (ρ 53)) (sdI s k)) x.toNatClampNeg))) (FP.i2d x)) := by
  unfold cd50
  by_cases h1 : I1 50 x
  · rw [if_pos h1]
    obtain ⟨L, hL1, hL, rfl⟩ := has_ex1 (by omega) h1
    obtain ⟨φ'', ρ'', q1, q2, q3⟩ := l_mean (sc := sc) (h := h) (φ := upd φ 0 (nI 0)) (ρ := ρ) (x := s) h0 hn hw hL hL1 s L 0 (by omega) (upd (upd φ 0 (nI 0)) 27 s) ρ ⟨rfl, rfl, rfl, rfl, rfl, rfl, rfl, rfl, rfl⟩ (fun _ _ => rfl) rfl
    refine ⟨_, φ'', ρ'', ?_, q2, q3, fun _ => by rw [nI_clamp (by omega)]⟩
    simp only [c0_X10_meanSteps, e_X10_meanSteps_0, e_X10_meanSteps_5, e_X10_meanSteps_12, e_X10_meanSteps_22, e_X10_meanSteps_27, rf_0, rf_1, rf_2, rf_3, rf_4, rf_5, rf_6, rf_7, rf_8, rf_9, rf_10, rf_11, rf_12, rf_13, rf_14, rf_15, rf_16, rf_17, rf_18, rf_19, rf_20, rf_21, rf_22, rf_23, rf_24, rf_25, rf_26, rf_27, rf_28, rf_29, rf_30, rf_31, rf_32, rf_33, rf_34, rp_0, rp_2, rp_5, rp_7, rp_8, rp_9, rp_10, rp_12, rp_16, rp_20, rp_21, rp_22, rp_25, rp_27, rp_30, rp_32, bI_r, bO_some, bF_I, bF_D, bF_C, bC_v, pk_mul, nI_add, Option.toList, List.cons_append, List.nil_append, upd_eq, upr_eq, Nat.reduceEqDiff, reduceIte, c_isIn, decide_eq_true h1, zI_0, if_true, if_false, eq_self, not_true_eq_false, not_false_eq_true, reduceCtorEq]
    exact q1
  · rw [if_neg h1]
    refine ⟨FP.i2d (nI 0), upd φ 0 (nI 1), ρ, ?_, ⟨rfl, rfl, rfl, rfl, rfl, rfl, rfl, rfl, rfl⟩, fun _ _ => rfl, fun z => by cases z⟩
    simp only [c0_X10_meanSteps, e_X10_meanSteps_0, e_X10_meanSteps_5, e_X10_meanSteps_12, e_X10_meanSteps_15, e_X10_meanSteps_20, rf_0, rf_1, rf_2, rf_3, rf_4, rf_5, rf_6, rf_7, rf_8, rf_9, rf_10, rf_11, rf_12, rf_13, rf_14, rf_15, rf_16, rf_17, rf_18, rf_19, rf_20, rf_21, rf_22, rf_23, rf_24, rf_25, rf_26, rf_27, rf_28, rf_29, rf_30, rf_31, rf_32, rf_33, rf_34, rp_0, rp_2, rp_5, rp_7, rp_8, rp_9, rp_10, rp_12, rp_16, rp_20, rp_21, rp_22, rp_25, rp_27, rp_30, rp_32, bI_r, bO_some, bF_I, bF_D, bF_C, bC_v, pk_mul, nI_add, Option.toList, List.cons_append, List.nil_append, upd_eq, upr_eq, Nat.reduceEqDiff, reduceIte, c_isIn, decide_eq_false h1, zI_0, if_true, if_false, eq_self, not_true_eq_false, not_false_eq_true, fail_r, upd_upd]
theorem l_share (h0 : ρ 53 0 = nI n) (hn : n ≤ 60) (hw : WF n (xM n (ρ 53))) : ∀ d i, i + d = n → Run sc n_X10_filledShare 11 [aD 51, aI (nI (cnt i (fun k => kBr (kx (xM n (ρ 53)) k)))), aI (nI (cnt i (fun k => slX (xM n (ρ 53)) k && !Nat.beq (kx (xM n (ρ 53)) k) 0))), aI (nI i)] none [] (rh h φ ρ) = Run sc n_X10_filledShare 70 [aD 51, aI (nI (cnt n (fun k => kBr (kx (xM n (ρ 53)) k)))), aI (nI (cnt n (fun k => slX (xM n (ρ 53)) k && !Nat.beq (kx (xM n (ρ 53)) k) 0))), aI (nI n)] none [] (rh h φ ρ) := by
  have o := FO_r (h := h) (φ := φ) h0 hn
  intro d
  induction d with
  | zero =>
    intro i hi
    have : i = n := by omega
    subst this
    simp only [e_X10_filledShare_11, e_X10_filledShare_16, rf_0, rf_1, rf_2, rf_3, rf_4, rf_5, rf_6, rf_7, rf_8, rf_9, rf_10, rf_11, rf_12, rf_13, rf_14, rf_15, rf_16, rf_17, rf_18, rf_19, rf_20, rf_21, rf_22, rf_23, rf_24, rf_25, rf_26, rf_27, rf_28, rf_29, rf_30, rf_31, rf_32, rf_33, rf_34, rp_0, rp_2, rp_5, rp_7, rp_8, rp_9, rp_10, rp_12, rp_16, rp_20, rp_21, rp_22, rp_25, rp_27, rp_30, rp_32, bI_r, bO_some, bF_I, bF_D, bF_C, bC_v, pk_mul, nI_add, Option.toList, List.cons_append, List.nil_append, upd_eq, upr_eq, Nat.reduceEqDiff, reduceIte, c_entryMany o, nI_le (Nat.le_refl i) (show i < 2 ^ 31 by omega), if_true]
  | succ d ih =>
    intro i hi
    have hin : i < n := by omega
    have h1 : ¬ nI n ≤ nI i := nI_ge (by omega) (by omega)
    have k1 := (hw.1 i hin).2
    have e0 := c_atK (sc := sc) o hw.1 hin
    have e3 := c_X10_isSlot (sc := sc) o hw.1 (show i ≤ n by omega)
    have h2 := ih (i + 1) (by omega)
    rw [← h2, e_X10_filledShare_11]
    have ek : (nI (kx (xM n (ρ 53)) i) = 0) = (kx (xM n (ρ 53)) i = 0) := eqI (b := 0) (by omega) (by omega)
    have T : ∀ b c d' : Nat, Run sc n_X10_filledShare 29 [aD 51, aI (nI b), aI (nI c), aI (nI i)] none [aI (zI (kBr (kx (xM n (ρ 53)) i))), aI (nI b)] (rh h φ ρ) = Run sc n_X10_filledShare 11 [aD 51, aI (nI (b + if kBr (kx (xM n (ρ 53)) i) = true then 1 else 0)), aI (nI (c + if (slX (xM n (ρ 53)) i && !Nat.beq (kx (xM n (ρ 53)) i) 0) = true then 1 else 0)), aI (nI (i + 1))] none [] (rh h φ ρ) := by
      intro b c d'
      have T2 : ∀ b : Nat, Run sc n_X10_filledShare 45 [aD 51, aI (nI b), aI (nI c), aI (nI i)] none [aI (zI (slX (xM n (ρ 53)) i)), aI (nI c)] (rh h φ ρ) = Run sc n_X10_filledShare 11 [aD 51, aI (nI b), aI (nI (c + if (slX (xM n (ρ 53)) i && !Nat.beq (kx (xM n (ρ 53)) i) 0) = true then 1 else 0)), aI (nI (i + 1))] none [] (rh h φ ρ) := by
        intro b
        cases slX (xM n (ρ 53)) i
        · simp only [e_X10_filledShare_45, bO_some, bF_I, bF_D, bF_C, bC_v, pk_mul, nI_add, Option.toList, List.cons_append, List.nil_append, zI_0, if_true, if_false, eq_self, not_true_eq_false, not_false_eq_true, e_X10_filledShare_61, e_X10_filledShare_62, Bool.false_and, reduceCtorEq]
        · simp only [e_X10_filledShare_45, rf_0, rf_1, rf_2, rf_3, rf_4, rf_5, rf_6, rf_7, rf_8, rf_9, rf_10, rf_11, rf_12, rf_13, rf_14, rf_15, rf_16, rf_17, rf_18, rf_19, rf_20, rf_21, rf_22, rf_23, rf_24, rf_25, rf_26, rf_27, rf_28, rf_29, rf_30, rf_31, rf_32, rf_33, rf_34, rp_0, rp_2, rp_5, rp_7, rp_8, rp_9, rp_10, rp_12, rp_16, rp_20, rp_21, rp_22, rp_25, rp_27, rp_30, rp_32, bI_r, bO_some, bF_I, bF_D, bF_C, bC_v, pk_mul, nI_add, Option.toList, List.cons_append, List.nil_append, upd_eq, upr_eq, Nat.reduceEqDiff, reduceIte, zI_0, if_true, if_false, eq_self, not_true_eq_false, not_false_eq_true, reduceCtorEq, e_X10_filledShare_48, e0, e_X10_filledShare_54, ek, Bool.true_and]
          by_cases hk : kx (xM n (ρ 53)) i = 0
          · rw [if_pos hk, hk, e_X10_filledShare_61, e_X10_filledShare_62, nI_add, nI_add]
            rfl
          · rw [if_neg hk, beq_f hk, e_X10_filledShare_57, e_X10_filledShare_62, nI_add, nI_add]
            rfl
      cases kBr (kx (xM n (ρ 53)) i)
      · simp only [e_X10_filledShare_29, e_X10_filledShare_36, e_X10_filledShare_37, rf_0, rf_1, rf_2, rf_3, rf_4, rf_5, rf_6, rf_7, rf_8, rf_9, rf_10, rf_11, rf_12, rf_13, rf_14, rf_15, rf_16, rf_17, rf_18, rf_19, rf_20, rf_21, rf_22, rf_23, rf_24, rf_25, rf_26, rf_27, rf_28, rf_29, rf_30, rf_31, rf_32, rf_33, rf_34, rp_0, rp_2, rp_5, rp_7, rp_8, rp_9, rp_10, rp_12, rp_16, rp_20, rp_21, rp_22, rp_25, rp_27, rp_30, rp_32, bI_r, bO_some, bF_I, bF_D, bF_C, bC_v, pk_mul, nI_add, Option.toList, List.cons_append, List.nil_append, upd_eq, upr_eq, Nat.reduceEqDiff, reduceIte, zI_0, if_true, if_false, eq_self, not_true_eq_false, not_false_eq_true, reduceCtorEq, e3]
        exact T2 _
      · simp only [e_X10_filledShare_29, e_X10_filledShare_32, e_X10_filledShare_37, rf_0, rf_1, rf_2, rf_3, rf_4, rf_5, rf_6, rf_7, rf_8, rf_9, rf_10, rf_11, rf_12, rf_13, rf_14, rf_15, rf_16, rf_17, rf_18, rf_19, rf_20, rf_21, rf_22, rf_23, rf_24, rf_25, rf_26, rf_27, rf_28, rf_29, rf_30, rf_31, rf_32, rf_33, rf_34, rp_0, rp_2, rp_5, rp_7, rp_8, rp_9, rp_10, rp_12, rp_16, rp_20, rp_21, rp_22, rp_25, rp_27, rp_30, rp_32, bI_r, bO_some, bF_I, bF_D, bF_C, bC_v, pk_mul, nI_add, Option.toList, List.cons_append, List.nil_append, upd_eq, upr_eq, Nat.reduceEqDiff, reduceIte, zI_0, if_true, if_false, eq_self, not_true_eq_false, not_false_eq_true, reduceCtorEq, e3]
        exact T2 _
    simp only [e_X10_filledShare_16, e_X10_filledShare_19, e_X10_filledShare_26, rf_0, rf_1, rf_2, rf_3, rf_4, rf_5, rf_6, rf_7, rf_8, rf_9, rf_10, rf_11, rf_12, rf_13, rf_14, rf_15, rf_16, rf_17, rf_18, rf_19, rf_20, rf_21, rf_22, rf_23, rf_24, rf_25, rf_26, rf_27, rf_28, rf_29, rf_30, rf_31, rf_32, rf_33, rf_34, rp_0, rp_2, rp_5, rp_7, rp_8, rp_9, rp_10, rp_12, rp_16, rp_20, rp_21, rp_22, rp_25, rp_27, rp_30, rp_32, bI_r, bO_some, bF_I, bF_D, bF_C, bC_v, pk_mul, nI_add, Option.toList, List.cons_append, List.nil_append, upd_eq, upr_eq, Nat.reduceEqDiff, reduceIte, c_entryMany o, h1, if_false, e0, c_isBranch k1]
    exact T _ _ 0
def cdFs (n : Nat) (X : Nat → Nat → Int32) : Nat := if cnt n (fun k => kBr (kx X k)) = 0 then 1 else 0
theorem r_filledShare (h0 : ρ 53 0 = nI n) (hn : n ≤ 60) (hw : WF n (xM n (ρ 53))) : ∃ b, Call sc n_X10_filledShare [aD 51] (rh h φ ρ) = some (.inl (some (aF b)), rh h (upd φ 0 (nI (cdFs n (xM n (ρ 53))))) ρ) ∧ (cdFs n (xM n (ρ 53)) = 0 → b = FP.fdiv (FP.i2f (nI (cnt n (fun k => kBr (kx (xM n (ρ 53)) k)) - cnt n (fun k => esX (xM n (ρ 53)) k)))) (FP.i2f (nI (cnt n (fun k => kBr (kx (xM n (ρ 53)) k)))))) := by
  have q1 := l_share (sc := sc) (h := h) (φ := upd φ 0 (nI 0)) h0 hn hw n 0 (by omega)
  have hfd := cnt_fd (n := n) (X := xM n (ρ 53)) hw.2.2.1
  have hc1 := cnt_le n (fun k => kBr (kx (xM n (ρ 53)) k))
  have hc2 := cnt_le n (fun k => slX (xM n (ρ 53)) k && !Nat.beq (kx (xM n (ρ 53)) k) 0)
  rw [hfd] at q1 hc2
  have q0 : Call sc n_X10_filledShare [aD 51] (rh h φ ρ) = Run sc n_X10_filledShare 70 [aD 51, aI (nI (cnt n (fun k => kBr (kx (xM n (ρ 53)) k)))), aI (nI (cnt n (fun k => kBr (kx (xM n (ρ 53)) k)) - cnt n (fun k => esX (xM n (ρ 53)) k))), aI (nI n)] none [] (rh h (upd φ 0 (nI 0)) ρ) := by
    rw [← q1]
    simp only [c0_X10_filledShare, e_X10_filledShare_0, e_X10_filledShare_5, rf_0, rf_1, rf_2, rf_3, rf_4, rf_5, rf_6, rf_7, rf_8, rf_9, rf_10, rf_11, rf_12, rf_13, rf_14, rf_15, rf_16, rf_17, rf_18, rf_19, rf_20, rf_21, rf_22, rf_23, rf_24, rf_25, rf_26, rf_27, rf_28, rf_29, rf_30, rf_31, rf_32, rf_33, rf_34, rp_0, rp_2, rp_5, rp_7, rp_8, rp_9, rp_10, rp_12, rp_16, rp_20, rp_21, rp_22, rp_25, rp_27, rp_30, rp_32, bI_r, bO_some, bF_I, bF_D, bF_C, bC_v, pk_mul, nI_add, Option.toList, List.cons_append, List.nil_append, upd_eq, upr_eq, Nat.reduceEqDiff, reduceIte]
    rfl
  rw [q0]
  unfold cdFs
  generalize cnt n (fun k => kBr (kx (xM n (ρ 53)) k)) = B at *
  generalize B - cnt n (fun k => esX (xM n (ρ 53)) k) = C at *
  by_cases hB : B = 0
  · subst hB
    refine ⟨FP.i2f (nI 0), ?_, (fun z => by cases z)⟩
    simp only [e_X10_filledShare_70, show (nI 0 = 0) = True from eq_true (by decide), not_true_eq_false, if_false, e_X10_filledShare_74, e_X10_filledShare_79, e_X10_filledShare_88, bI_r, fail_r, bO_some, bF_I, bF_D, bF_C, bC_v, pk_mul, nI_add, Option.toList, List.cons_append, List.nil_append, upd_upd, if_true]
  · have hne : ¬ nI B = 0 := fun z => hB (nI_inj (b := 0) (by omega) (by omega) z)
    rw [if_neg hB]
    have hd := fdiv_num C (by omega) B (by omega) (by omega)
    refine ⟨FP.fdiv (FP.i2f (nI C)) (FP.i2f (nI B)), ?_, fun _ => rfl⟩
    simp only [e_X10_filledShare_70, hne, not_false_eq_true, if_true, e_X10_filledShare_83, bI_t hd, e_X10_filledShare_88]
end
