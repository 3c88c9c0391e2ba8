/-! PURE 68: the reference: differences, mean steps -/
/-- a source that may be executed -/
def SV (sn : Nat) (S : Nat → Nat → Int32) : Prop := VK sn S ∧ VG sn S ∧ VT sn S
def smN (f : Nat → Nat) : Nat → Nat
  | 0 => 0
  | k + 1 => smN f k + f k
section
variable {sc : SC} {h : AH} {φ : Nat → Int32} {ρ : Nat → Nat → Int32} {v o f : Nat → Int32} {m st j n sn i a L : Nat} {x s : Int32} {X S : Nat → Nat → Int32} {hs : Bool} {v3 v4 v5 v6 : AV}
theorem r_isDifferent (h0 : ρ 53 0 = nI n) (hn : n ≤ 60) (hw : WF n (xM n (ρ 53))) (h2 : φ 2 = nI sn) (hsn : sn ≤ 30) (hsv : SV sn (xS sn (ρ 52))) (hf : ∀ j, j < 24 → ρ 65 j = f j) : ∃ φ' ρ', Call sc n_X10_isDifferent [aD 51] (rh h φ ρ) = some (.inl (some (aI (zI (dfB sn n (runX (xS sn (ρ 52)) sn false f 300) (runX (xM n (ρ 53)) n true f 300))))), rh h φ' ρ') ∧ KF φ φ' ∧ KR ρ ρ' ∧ φ' 27 = φ 27 := by
  obtain ⟨v1, o1, m1, st1, q1, q2⟩ := r_runsDrawn (sc := sc) (h := h) (φ := φ) (ρ := ρ) (f := f) (hs := false) (PP_f (ρ := upr ρ 61 (cpy (ρ 65) (ρ 61) 0 0 24)) hsn hsv.1 hsv.2.1 hsv.2.2) ⟨(fun z => by cases z), fun _ => h2⟩ hf
  rw [show (upr ρ 61 (cpy (ρ 65) (ρ 61) 0 0 24)) 52 = ρ 52 from rfl] at q1 q2
  rw [show zI false = nI 0 from rfl] at q1
  unfold dfB
  generalize hA : runX (xS sn (ρ 52)) sn false f 300 = A at *
  by_cases hA1 : sn ≤ A.1
  · obtain ⟨a1, a2, a3, a4, a5⟩ := q2 hA1
    have q3 := l_fo (sc := sc) (h := h) (φ := upd (upd φ 20 (nI m1)) 21 (nI st1)) (ρ := upr (upr (upr ρ 61 (cpy (ρ 65) (ρ 61) 0 0 24)) 61 v1) 62 o1) (v3 := aU) (show m1 ≤ 2000 by omega) m1 0 (by omega)
    rw [cpy_0, upr_self] at q3
    have q4 := l_fc (sc := sc) (h := h) (φ := upd (upd φ 20 (nI m1)) 21 (nI st1)) (ρ := upr (upr (upr (upr ρ 61 (cpy (ρ 65) (ρ 61) 0 0 24)) 61 v1) 62 o1) 67 (cpy o1 (ρ 67) 0 0 m1)) (v3 := aU) (x1 := nI m1) 16 0 rfl
    rw [cpy_0, upr_self] at q4
    have q4' : Run sc n_X10_isDifferent 42 [aD 51, aI (nI m1), aI (nI 0), aU] none [] (rh h (upd (upd φ 20 (nI m1)) 21 (nI st1)) (upr (upr (upr (upr ρ 61 (cpy (ρ 65) (ρ 61) 0 0 24)) 61 v1) 62 o1) 67 (cpy o1 (ρ 67) 0 0 m1))) = Run sc n_X10_isDifferent 69 [aD 51, aI (nI m1), aI (nI 16), aU] none [] (rh h (upd (upd φ 20 (nI m1)) 21 (nI st1)) (upr (upr (upr (upr (upr ρ 61 (cpy (ρ 65) (ρ 61) 0 0 24)) 61 v1) 62 o1) 67 (cpy o1 (ρ 67) 0 0 m1)) 66 (cpy v1 (ρ 66) 8 0 16))) := q4
    have q3' : Run sc n_X10_isDifferent 17 [aD 51, aI (nI m1), aI (nI 0), aU] none [] (rh h (upd (upd φ 20 (nI m1)) 21 (nI st1)) (upr (upr (upr ρ 61 (cpy (ρ 65) (ρ 61) 0 0 24)) 61 v1) 62 o1)) = Run sc n_X10_isDifferent 40 [aD 51, aI (nI m1), aI (nI m1), aU] none [] (rh h (upd (upd φ 20 (nI m1)) 21 (nI st1)) (upr (upr (upr (upr ρ 61 (cpy (ρ 65) (ρ 61) 0 0 24)) 61 v1) 62 o1) 67 (cpy o1 (ρ 67) 0 0 m1))) := q3
    clear q3 q4
    generalize hρ3 : upr (upr (upr (upr (upr ρ 61 (cpy (ρ 65) (ρ 61) 0 0 24)) 61 v1) 62 o1) 67 (cpy o1 (ρ 67) 0 0 m1)) 66 (cpy v1 (ρ 66) 8 0 16) = ρ3 at *
    have k3 : KR ρ ρ3 := by
      rw [← hρ3]
      exact ((((KR.up (by omega)).trans (KR.up (by omega))).trans (KR.up (by omega))).trans (KR.up (by omega))).trans (KR.up (by omega))
    have r54 : ρ3 53 = ρ 53 := by rw [← hρ3]; rfl
    have r66 : ρ3 65 = ρ 65 := by rw [← hρ3]; rfl
    have r68 : ρ3 67 = cpy o1 (ρ 67) 0 0 m1 := by rw [← hρ3]; rfl
    have r67 : ρ3 66 = cpy v1 (ρ 66) 8 0 16 := by rw [← hρ3]; rfl
    clear hρ3
    have hpp : PP sc h (upd (upd φ 20 (nI m1)) 21 (nI st1)) (upr ρ3 61 (cpy (ρ3 65) (ρ3 61) 0 0 24)) true n (xM n (ρ 53)) := by
      have z := PP_t (sc := sc) (h := h) (φ := upd (upd φ 20 (nI m1)) 21 (nI st1)) (ρ := upr ρ3 61 (cpy (ρ3 65) (ρ3 61) 0 0 24)) (n := n) (by rw [upr_eq, if_neg (by omega), r54]; exact h0) hn (by rw [upr_eq, if_neg (by omega), r54]; exact hw)
      rw [upr_eq, if_neg (by omega), r54] at z
      exact z
    obtain ⟨v2, o2, m2, st2, s1, s2⟩ := r_runsDrawn (f := f) hpp ⟨fun _ => by rw [r54]; exact h0, (fun z => by cases z)⟩ (fun j hj => by rw [r66]; exact hf j hj)
    rw [show zI true = nI 1 from rfl] at s1
    have q5 : Call sc n_X10_isDifferent [aD 51] (rh h φ ρ) = bC (Call sc n_X10_runsDrawn [aD 51, aI (nI 1)] (rh h (upd (upd φ 20 (nI m1)) 21 (nI st1)) ρ3)) (fun v z => Run sc n_X10_isDifferent 74 [aD 51, aI (nI m1), aI (nI 16), aU] none (v.toList ++ []) z) (fun E z => some (.inr E, z)) := by
      rw [decide_eq_true hA1] at q1
      simp only [c0_X10_isDifferent, e_X10_isDifferent_0, bI_r, q1, bO_some, bF_I, bF_D, bF_C, bC_v, pk_mul, nI_add, Option.toList, List.cons_append, List.nil_append, e_X10_isDifferent_5, zI_0, if_true, if_false, eq_self, not_true_eq_false, not_false_eq_true, reduceCtorEq, e_X10_isDifferent_10, rS_20, e_X10_isDifferent_14]
      unfold rS
      rw [q3', e_X10_isDifferent_40, q4', e_X10_isDifferent_69, bI_r]
      rfl
    generalize hB : runX (xM n (ρ 53)) n true f 300 = B at *
    rw [decide_eq_true hA1, Bool.true_and, q5, s1]
    by_cases hB1 : n ≤ B.1
    · obtain ⟨b1, b2, b3, b4, b5⟩ := s2 hB1
      rw [decide_eq_true hB1, Bool.true_and]
      obtain ⟨x3, t1⟩ := l_d95 (sc := sc) (h := h) (φ := upd (upd (upd (upd φ 20 (nI m1)) 21 (nI st1)) 20 (nI m2)) 21 (nI st2)) (ρ := upr (upr (upr ρ3 61 (cpy (ρ3 65) (ρ3 61) 0 0 24)) 61 v2) 62 o2) (show m1 ≤ 2000 by omega) m1 0 (by omega) (!Nat.beq m1 m2)
      have t2 := l_d133 (sc := sc) (h := h) (φ := upd (upd (upd (upd φ 20 (nI m1)) 21 (nI st1)) 20 (nI m2)) 21 (nI st2)) (ρ := upr (upr (upr ρ3 61 (cpy (ρ3 65) (ρ3 61) 0 0 24)) 61 v2) 62 o2) (x1 := nI m1) 16 0 rfl ((!Nat.beq m1 m2) || !alB (fun j => decide (ρ3 67 j = o2 j)) m1 0)
      have t1' : Run sc n_X10_isDifferent 95 [aD 51, aI (nI m1), aI (zI (!Nat.beq m1 m2)), aI (nI 0)] none [] (rh h (upd (upd (upd (upd φ 20 (nI m1)) 21 (nI st1)) 20 (nI m2)) 21 (nI st2)) (upr (upr (upr ρ3 61 (cpy (ρ3 65) (ρ3 61) 0 0 24)) 61 v2) 62 o2)) = Run sc n_X10_isDifferent 131 [aD 51, aI (nI m1), aI (zI ((!Nat.beq m1 m2) || !alB (fun j => decide (ρ3 67 j = o2 j)) m1 0)), aI x3] none [] (rh h (upd (upd (upd (upd φ 20 (nI m1)) 21 (nI st1)) 20 (nI m2)) 21 (nI st2)) (upr (upr (upr ρ3 61 (cpy (ρ3 65) (ρ3 61) 0 0 24)) 61 v2) 62 o2)) := t1
      have t2' : Run sc n_X10_isDifferent 133 [aD 51, aI (nI m1), aI (zI ((!Nat.beq m1 m2) || !alB (fun j => decide (ρ3 67 j = o2 j)) m1 0)), aI (nI 0)] none [] (rh h (upd (upd (upd (upd φ 20 (nI m1)) 21 (nI st1)) 20 (nI m2)) 21 (nI st2)) (upr (upr (upr ρ3 61 (cpy (ρ3 65) (ρ3 61) 0 0 24)) 61 v2) 62 o2)) = some (.inl (some (aI (zI (((!Nat.beq m1 m2) || !alB (fun j => decide (ρ3 67 j = o2 j)) m1 0) || !alB (fun j => decide (ρ3 66 j = v2 (8 + j))) 16 0)))), rh h (upd (upd (upd (upd φ 20 (nI m1)) 21 (nI st1)) 20 (nI m2)) 21 (nI st2)) (upr (upr (upr ρ3 61 (cpy (ρ3 65) (ρ3 61) 0 0 24)) 61 v2) 62 o2)) := t2
      have hres : (((!Nat.beq m1 m2) || !alB (fun j => decide (ρ3 67 j = o2 j)) m1 0) || !alB (fun j => decide (ρ3 66 j = v2 (8 + j))) 16 0) = !efX A.2.2.1 A.2.2.2.1 A.2.2.2.2.1 B.2.2.1 B.2.2.2.1 B.2.2.2.2.1 := by
        unfold efX
        rw [← a3, ← b3]
        have w2 : alB (fun j => decide (A.2.2.1 j = B.2.2.1 j)) 16 8 = alB (fun j => decide (ρ3 66 j = v2 (8 + j))) 16 0 := by
          rw [show (8 : Nat) = 8 + 0 from rfl, alB_sh]
          refine alB_ag 16 0 (fun j _ hj => ?_)
          rw [r67, cpy_eq, if_pos (by omega), show 8 + (j - 0) = 8 + j by omega, a1 (8 + j) (by omega), b1 (8 + j) (by omega)]
        rw [w2]
        cases hbq : Nat.beq m1 m2
        · rfl
        · have hmm := Nat.eq_of_beq_eq_true hbq
          have w1 : alB (fun j => decide (A.2.2.2.1 j = B.2.2.2.1 j)) m1 0 = alB (fun j => decide (ρ3 67 j = o2 j)) m1 0 := by
            refine alB_ag m1 0 (fun j _ hj => ?_)
            rw [r68, cpy_eq, if_pos (by omega), show 0 + (j - 0) = j by omega, a2 j (by omega), b2 j (by omega)]
          rw [w1]
          cases alB (fun j => decide (ρ3 67 j = o2 j)) m1 0 <;> cases alB (fun j => decide (ρ3 66 j = v2 (8 + j))) 16 0 <;> rfl
      refine ⟨upd (upd (upd (upd φ 20 (nI m1)) 21 (nI st1)) 20 (nI m2)) 21 (nI st2), upr (upr (upr ρ3 61 (cpy (ρ3 65) (ρ3 61) 0 0 24)) 61 v2) 62 o2, ?_, ⟨rfl, rfl, rfl, rfl, rfl, rfl, rfl, rfl, rfl⟩, ((k3.trans (KR.up (by omega))).trans (KR.up (by omega))).trans (KR.up (by omega)), rfl⟩
      rw [← hres, ← t2']
      have T92 : ∀ H, Run sc n_X10_isDifferent 84 [aD 51, aI (nI m1), aI (nI 16), aU] none [aI (nI m2), aI (nI m1)] H = Run sc n_X10_isDifferent 95 [aD 51, aI (nI m1), aI (zI (!Nat.beq m1 m2)), aI (nI 0)] none [] H := by
        intro H
        rw [e_X10_isDifferent_84]
        by_cases hmm : m1 = m2
        · rw [if_pos (by rw [hmm]), e_X10_isDifferent_91, e_X10_isDifferent_92, hmm, show Nat.beq m2 m2 = true from Nat.beq_refl _]
          rfl
        · rw [if_neg (fun z => hmm (nI_inj (by omega) (by omega) z)), e_X10_isDifferent_87, e_X10_isDifferent_92, beq_f hmm]
          rfl
      simp only [bC_v, Option.toList, List.cons_append, List.nil_append, e_X10_isDifferent_74, zI_0, if_true, if_false, eq_self, not_true_eq_false, not_false_eq_true, reduceCtorEq, e_X10_isDifferent_79, rS_20, bF_I, T92]
      unfold rS
      rw [t1', e_X10_isDifferent_131]
    · rw [decide_eq_false hB1, Bool.false_and]
      refine ⟨upd (upd (upd (upd φ 20 (nI m1)) 21 (nI st1)) 20 (nI m2)) 21 (nI st2), upr (upr (upr ρ3 61 (cpy (ρ3 65) (ρ3 61) 0 0 24)) 61 v2) 62 o2, ?_, ⟨rfl, rfl, rfl, rfl, rfl, rfl, rfl, rfl, rfl⟩, ((k3.trans (KR.up (by omega))).trans (KR.up (by omega))).trans (KR.up (by omega)), rfl⟩
      simp only [bC_v, Option.toList, List.cons_append, List.nil_append, e_X10_isDifferent_74, zI_0, if_true, if_false, eq_self, not_true_eq_false, not_false_eq_true, e_X10_isDifferent_77]
      rfl
  · rw [decide_eq_false hA1, Bool.false_and]
    rw [decide_eq_false hA1] at q1
    refine ⟨upd (upd φ 20 (nI m1)) 21 (nI st1), upr (upr (upr ρ 61 (cpy (ρ 65) (ρ 61) 0 0 24)) 61 v1) 62 o1, ?_, ⟨rfl, rfl, rfl, rfl, rfl, rfl, rfl, rfl, rfl⟩, ((KR.up (by omega)).trans (KR.up (by omega))).trans (KR.up (by omega)), rfl⟩
    simp only [c0_X10_isDifferent, e_X10_isDifferent_0, bI_r, q1, bO_some, bF_I, bF_D, bF_C, bC_v, pk_mul, nI_add, Option.toList, List.cons_append, List.nil_append, e_X10_isDifferent_5, zI_0, if_true, if_false, eq_self, not_true_eq_false, not_false_eq_true, e_X10_isDifferent_8]
    rfl
def dfD (sn n : Nat) (S X : Nat → Nat → Int32) (s : Int32) : Bool := dfB sn n (runX S sn false (drV s) 300) (runX X n true (drV s) 300)
theorem l_diffs (h0 : ρ 53 0 = nI n) (hn : n ≤ 60) (hw : WF n (xM n (ρ 53))) (h2 : φ 2 = nI sn) (hsn : sn ≤ 30) (hsv : SV sn (xS sn (ρ 52))) (hL : L ≤ 50) (s0 : Int32) : ∀ d i, i + d = L → ∀ φ' ρ', KF φ φ' → KR ρ ρ' → φ' 27 = sdI s0 i → ∃ φ'' ρ'', Run sc n_X10_differences 31 [aD 51, aI x, aI (nI L), aI (nI (cnt i (fun k => dfD sn n (xS sn (ρ 52)) (xM n (ρ 53)) (sdI s0 k)))), aI (nI i)] none [] (rh h φ' ρ') = some (.inl (some (aI (nI (cnt L (fun k => dfD sn n (xS sn (ρ 52)) (xM n (ρ 53)) (sdI s0 k)))))), rh h φ'' ρ'') ∧ KF φ φ'' ∧ KR ρ ρ'' := by
  intro d
  induction d with
  | zero =>
    intro i hi φ' ρ' k1 k2 h27
    have : i = L := by omega
    subst this
    refine ⟨φ', ρ', ?_, k1, k2⟩
    rw [e_X10_differences_31, if_pos (nI_le (Nat.le_refl _) (by omega)), e_X10_differences_62]
  | succ d ih =>
    intro i hi φ' ρ' k1 k2 h27
    have h1 : ¬ nI L ≤ nI i := nI_ge (by omega) (by omega)
    have q1 := r_draw (sc := sc) (h := h) (ρ := ρ') h27
    have e54 : (upr ρ' 65 (drR (sdI s0 i) (ρ' 65) 24)) 53 = ρ 53 := k2 53 (by omega)
    have e53 : (upr ρ' 65 (drR (sdI s0 i) (ρ' 65) 24)) 52 = ρ 52 := k2 52 (by omega)
    obtain ⟨φ2, ρ2, q2, q3, q4, q5⟩ := r_isDifferent (sc := sc) (h := h) (φ := upd φ' 27 (drS (sdI s0 i) 24)) (ρ := upr ρ' 65 (drR (sdI s0 i) (ρ' 65) 24)) (n := n) (sn := sn) (f := drV (sdI s0 i)) (by rw [e54]; exact h0) hn (by rw [e54]; exact hw) (k1.2.1.trans h2) hsn (by rw [e53]; exact hsv) (fun j hj => drR_at _ _ 24 j hj)
    rw [e54, e53] at q2
    have hD : dfB sn n (runX (xS sn (ρ 52)) sn false (drV (sdI s0 i)) 300) (runX (xM n (ρ 53)) n true (drV (sdI s0 i)) 300) = dfD sn n (xS sn (ρ 52)) (xM n (ρ 53)) (sdI s0 i) := rfl
    rw [hD] at q2
    have k3 : KF φ φ2 := (k1.trans ⟨rfl, rfl, rfl, rfl, rfl, rfl, rfl, rfl, rfl⟩).trans q3
    have k4 : KR ρ ρ2 := (k2.trans (KR.up (by omega))).trans q4
    obtain ⟨φ'', ρ'', s1, s2, s3⟩ := ih (i + 1) (by omega) φ2 ρ2 k3 k4 q5
    refine ⟨φ'', ρ'', ?_, s2, s3⟩
    rw [← s1, e_X10_differences_31, if_neg h1]
    simp only [e_X10_differences_37, e_X10_differences_41, bI_r, q1, q2, bO_some, bF_I, bF_D, bF_C, bC_v, pk_mul, nI_add, Option.toList, List.cons_append, List.nil_append, e_X10_differences_46]
    cases hd : dfD sn n (xS sn (ρ 52)) (xM n (ρ 53)) (sdI s0 i)
    · simp only [zI_0, if_true, if_false, eq_self, not_true_eq_false, not_false_eq_true, e_X10_differences_53, e_X10_differences_54, bO_some, bF_I, bF_D, bF_C, bC_v, pk_mul, nI_add, Option.toList, List.cons_append, List.nil_append, Nat.add_zero, cnt, hd, reduceCtorEq]
    · simp only [zI_0, if_true, if_false, eq_self, not_true_eq_false, not_false_eq_true, reduceCtorEq, e_X10_differences_49, e_X10_differences_54, bO_some, bF_I, bF_D, bF_C, bC_v, pk_mul, nI_add, Option.toList, List.cons_append, List.nil_append, cnt, hd]
def cd50 (x : Int32) : Nat := if I1 50 x then 0 else 1
theorem r_differences (h0 : ρ 53 0 = nI n) (hn : n ≤ 60) (hw : WF n (xM n (ρ 53))) (h2 : φ 2 = nI sn) (hsn : sn ≤ 30) (hsv : SV sn (xS sn (ρ 52))) (s x : Int32) : ∃ b φ' ρ', Call sc n_X10_differences [aD 51, aI s, aI x] (rh h φ ρ) = some (.inl (some (aI b)), rh h φ' ρ') ∧ KF (upd φ 0 (nI (cd50 x))) φ' ∧ KR ρ ρ' ∧ (cd50 x = 0 → b = nI (cnt x.toNatClampNeg (fun k => dfD sn n (xS sn (ρ 52)) (xM n (ρ 53)) (sdI s k)))) := by
  unfold cd50
  by_cases h1 : I1 50 x
  · rw [if_pos h1]
    obtain ⟨L, hL1, hL, rfl⟩ := has_ex1 (by omega) h1
    obtain ⟨φ'', ρ'', q1, q2, q3⟩ := l_diffs (sc := sc) (h := h) (φ := upd φ 0 (nI 0)) (ρ := ρ) (x := s) h0 hn hw h2 hsn hsv hL s L 0 (by omega) (upd (upd φ 0 (nI 0)) 27 s) ρ ⟨rfl, rfl, rfl, rfl, rfl, rfl, rfl, rfl, rfl⟩ (fun _ _ => rfl) rfl
    refine ⟨nI (cnt L (fun k => dfD sn n (xS sn (ρ 52)) (xM n (ρ 53)) (sdI s k))), φ'', ρ'', ?_, q2, q3, fun _ => by rw [nI_clamp (by omega)]⟩
    simp only [c0_X10_differences, e_X10_differences_0, e_X10_differences_5, e_X10_differences_12, e_X10_differences_21, e_X10_differences_26, rf_0, rf_1, rf_2, rf_3, rf_4, rf_5, rf_6, rf_7, rf_8, rf_9, rf_10, rf_11, rf_12, rf_13, rf_14, rf_15, rf_16, rf_17, rf_18, rf_19, rf_20, rf_21, rf_22, rf_23, rf_24, rf_25, rf_26, rf_27, rf_28, rf_29, rf_30, rf_31, rf_32, rf_33, rf_34, rp_0, rp_2, rp_5, rp_7, rp_8, rp_9, rp_10, rp_12, rp_16, rp_20, rp_21, rp_22, rp_25, rp_27, rp_30, rp_32, bI_r, bO_some, bF_I, bF_D, bF_C, bC_v, pk_mul, nI_add, Option.toList, List.cons_append, List.nil_append, upd_eq, upr_eq, Nat.reduceEqDiff, reduceIte, c_isIn, decide_eq_true h1, zI_0, if_true, if_false, eq_self, not_true_eq_false, not_false_eq_true, reduceCtorEq]
    exact q1
  · rw [if_neg h1]
    refine ⟨nI 0, upd φ 0 (nI 1), ρ, ?_, ⟨rfl, rfl, rfl, rfl, rfl, rfl, rfl, rfl, rfl⟩, fun _ _ => rfl, fun z => by cases z⟩
    simp only [c0_X10_differences, e_X10_differences_0, e_X10_differences_5, e_X10_differences_12, e_X10_differences_15, e_X10_differences_20, rf_0, rf_1, rf_2, rf_3, rf_4, rf_5, rf_6, rf_7, rf_8, rf_9, rf_10, rf_11, rf_12, rf_13, rf_14, rf_15, rf_16, rf_17, rf_18, rf_19, rf_20, rf_21, rf_22, rf_23, rf_24, rf_25, rf_26, rf_27, rf_28, rf_29, rf_30, rf_31, rf_32, rf_33, rf_34, rp_0, rp_2, rp_5, rp_7, rp_8, rp_9, rp_10, rp_12, rp_16, rp_20, rp_21, rp_22, rp_25, rp_27, rp_30, rp_32, bI_r, bO_some, bF_I, bF_D, bF_C, bC_v, pk_mul, nI_add, Option.toList, List.cons_append, List.nil_append, upd_eq, upr_eq, Nat.reduceEqDiff, reduceIte, c_isIn, decide_eq_false h1, zI_0, if_true, if_false, eq_self, not_true_eq_false, not_false_eq_true, fail_r, upd_upd]
end
