/-! PURE 22: the reader: numbers, instructions -/
section
variable {sc : SC} {h h' : AH} {p pr len pos i j k n s e : Nat} {num x x1 x2 x3 : Int32} {c : Nat → Int32} {S : Nat → Prop} {w : List Int32} {v3 v4 : AV}
theorem dg_lt (hh : dgX c len pos = true) : pos < len := by
  unfold dgX at hh
  rw [Bool.and_eq_true] at hh
  exact of_decide_eq_true hh.1
/-- the digits from p1 on, with their sign -/
theorem l_num (g : RD h p pr len pos num c) (sg : Bool) (hd : dgX c len pos = true) : ∃ h', Run sc n_X7_readsNumber 28 [aD p, aI x1, aI (zI sg), v3] none [] h = some (.inl (some (aI (nI 1))), h') ∧ RD h' p pr len (if dgX c len (pos + 1) = true then pos + 2 else pos + 1) (if sg = true then -(if dgX c len (pos + 1) = true then (nI 10 * (c pos - nI 48) + c (pos + 1)) - nI 48 else c pos - nI 48) else (if dgX c len (pos + 1) = true then (nI 10 * (c pos - nI 48) + c (pos + 1)) - nI 48 else c pos - nI 48)) c ∧ Fr (fun x => x = p) h h' := by
  have h1 := dg_lt hd
  obtain ⟨h2, q1, q2, q3⟩ := g.p2 (k := pos + 1) (by omega)
  have e2 := c_X7_isDigitNext (sc := sc) q2
  have T86 : ∀ {h3 : AH} {pos3 : Nat} (g3 : RD h3 p pr len pos3 num c) (y : Int32), ∃ h', Run sc n_X7_readsNumber 86 [aD p, aI x1, aI (zI sg), aI y] none [] h3 = some (.inl (some (aI (nI 1))), h') ∧ RD h' p pr len pos3 (if sg = true then -y else y) c ∧ Fr (fun x => x = p) h3 h' := by
    intro h3 pos3 g3 y
    cases sg
    · obtain ⟨h', r1, r2, r3⟩ := g3.p3 y
      refine ⟨h', ?_, r2, r3⟩
      simp only [e_X7_readsNumber_86, e_X7_readsNumber_96, e_X7_readsNumber_97, e_X7_readsNumber_100, r1, bO_some, bF_I, bF_D, bF_C, bC_v, pk_mul, nI_add, Option.toList, List.cons_append, List.nil_append, zI_0, if_true, if_false, eq_self, not_true_eq_false, not_false_eq_true]
    · obtain ⟨h', r1, r2, r3⟩ := g3.p3 (-y)
      refine ⟨h', ?_, r2, r3⟩
      simp only [e_X7_readsNumber_86, e_X7_readsNumber_91, e_X7_readsNumber_97, e_X7_readsNumber_100, r1, bO_some, bF_I, bF_D, bF_C, bC_v, pk_mul, nI_add, Option.toList, List.cons_append, List.nil_append, zI_0, if_true, if_false, eq_self, not_true_eq_false, not_false_eq_true, reduceCtorEq]
  by_cases hd2 : dgX c len (pos + 1) = true
  · have h3 := dg_lt hd2
    obtain ⟨h4, s1, s2, s3⟩ := q2.p2 (k := pos + 1 + 1) (by omega)
    obtain ⟨h', t1, t2, t3⟩ := T86 s2 (nI 10 * (c pos - nI 48) + c (pos + 1) - nI 48)
    refine ⟨h', ?_, ?_, (q3.trans s3).trans t3⟩
    · rw [hd2] at e2
      simp only [e_X7_readsNumber_28, e_X7_readsNumber_32, e_X7_readsNumber_36, e_X7_readsNumber_37, e_X7_readsNumber_46, e_X7_readsNumber_51, e_X7_readsNumber_55, e_X7_readsNumber_58, e_X7_readsNumber_66, e_X7_readsNumber_70, e_X7_readsNumber_71, e_X7_readsNumber_81, g.f0, g.f2, g.ld h1, q1, bI_t q2.ok, e2, q2.f0, q2.f2, q2.ld h3, s1, bO_some, bF_I, bF_D, bF_C, bC_v, pk_mul, nI_add, Option.toList, List.cons_append, List.nil_append, zI_0, if_true, if_false, eq_self, not_true_eq_false, not_false_eq_true, reduceCtorEq]
      exact t1
    · rw [if_pos hd2, if_pos hd2]
      exact t2
  · obtain ⟨h', t1, t2, t3⟩ := T86 q2 (c pos - nI 48)
    refine ⟨h', ?_, ?_, q3.trans t3⟩
    · have hd3 := hd2
      rw [Bool.not_eq_true] at hd3
      rw [hd3] at e2
      simp only [e_X7_readsNumber_28, e_X7_readsNumber_32, e_X7_readsNumber_36, e_X7_readsNumber_37, e_X7_readsNumber_46, e_X7_readsNumber_51, e_X7_readsNumber_55, g.f0, g.f2, g.ld h1, q1, bI_t q2.ok, e2, bO_some, bF_I, bF_D, bF_C, bC_v, pk_mul, nI_add, Option.toList, List.cons_append, List.nil_append, zI_0, if_true, if_false, eq_self, not_true_eq_false, not_false_eq_true, reduceCtorEq]
      exact t1
    · rw [if_neg hd2, if_neg hd2]
      exact t2
theorem c_X7_readsNumber (g : RD h p pr len pos num c) (neg : Bool) : ∃ h', Call sc n_X7_readsNumber [aD p, aI (zI neg)] h = some (.inl (some (aI (zI (nuX c len pos neg).1))), h') ∧ RD h' p pr len (nuX c len pos neg).2.1 (if (nuX c len pos neg).1 = true then (nuX c len pos neg).2.2 else num) c ∧ Fr (fun x => x = p) h h' := by
  have T18 : ∀ {h3 : AH} {pos3 : Nat} (g3 : RD h3 p pr len pos3 num c) (sg : Bool), ∃ h', Run sc n_X7_readsNumber 18 [aD p, aI (zI neg), aU, aU] none [aI (zI sg)] h3 = some (.inl (some (aI (zI (dgX c len pos3)))), h') ∧ RD h' p pr len (if dgX c len pos3 = true then (if dgX c len (pos3 + 1) = true then pos3 + 2 else pos3 + 1) else pos3) (if dgX c len pos3 = true then (if sg = true then -(if dgX c len (pos3 + 1) = true then (nI 10 * (c pos3 - nI 48) + c (pos3 + 1)) - nI 48 else c pos3 - nI 48) else (if dgX c len (pos3 + 1) = true then (nI 10 * (c pos3 - nI 48) + c (pos3 + 1)) - nI 48 else c pos3 - nI 48)) else num) c ∧ Fr (fun x => x = p) h3 h' := by
    intro h3 pos3 g3 sg
    have e2 := c_X7_isDigitNext (sc := sc) g3
    by_cases hd : dgX c len pos3 = true
    · obtain ⟨h', q1, q2, q3⟩ := l_num (sc := sc) (x1 := zI neg) (v3 := aU) g3 sg hd
      refine ⟨h', ?_, ?_, q3⟩
      · rw [hd] at e2 ⊢
        simp only [e_X7_readsNumber_18, e_X7_readsNumber_23, bI_t g3.ok, e2, bO_some, bF_I, bF_D, bF_C, bC_v, pk_mul, nI_add, Option.toList, List.cons_append, List.nil_append, zI_0, if_true, if_false, eq_self, not_true_eq_false, not_false_eq_true, reduceCtorEq]
        exact q1
      · rw [if_pos hd, if_pos hd]
        exact q2
    · refine ⟨h3, ?_, ?_, Fr.rfl⟩
      · rw [Bool.not_eq_true] at hd
        rw [hd] at e2 ⊢
        simp only [e_X7_readsNumber_18, e_X7_readsNumber_23, e_X7_readsNumber_26, bI_t g3.ok, e2, bO_some, bF_I, bF_D, bF_C, bC_v, pk_mul, nI_add, Option.toList, List.cons_append, List.nil_append, zI_0, if_true, if_false, eq_self, not_true_eq_false, not_false_eq_true, reduceCtorEq]
        rfl
      · rw [if_neg hd, if_neg hd]
        exact g3
  have hnu : ∀ sg : Bool, sg = (neg && psX c len pos (nI 45)) → nuX c len pos neg = (if dgX c len (if sg = true then pos + 1 else pos) = true then (true, (if dgX c len ((if sg = true then pos + 1 else pos) + 1) = true then (if sg = true then pos + 1 else pos) + 2 else (if sg = true then pos + 1 else pos) + 1), if sg = true then -(if dgX c len ((if sg = true then pos + 1 else pos) + 1) = true then (nI 10 * (c (if sg = true then pos + 1 else pos) - nI 48) + c ((if sg = true then pos + 1 else pos) + 1)) - nI 48 else c (if sg = true then pos + 1 else pos) - nI 48) else (if dgX c len ((if sg = true then pos + 1 else pos) + 1) = true then (nI 10 * (c (if sg = true then pos + 1 else pos) - nI 48) + c ((if sg = true then pos + 1 else pos) + 1)) - nI 48 else c (if sg = true then pos + 1 else pos) - nI 48)) else (false, (if sg = true then pos + 1 else pos), 0)) := by
    intro sg hsg
    subst hsg
    rfl
  have fin : ∀ {h3 : AH} (sg : Bool), sg = (neg && psX c len pos (nI 45)) → RD h3 p pr len (if sg = true then pos + 1 else pos) num c → Fr (fun x => x = p) h h3 → Call sc n_X7_readsNumber [aD p, aI (zI neg)] h = Run sc n_X7_readsNumber 18 [aD p, aI (zI neg), aU, aU] none [aI (zI sg)] h3 → ∃ h', Call sc n_X7_readsNumber [aD p, aI (zI neg)] h = some (.inl (some (aI (zI (nuX c len pos neg).1))), h') ∧ RD h' p pr len (nuX c len pos neg).2.1 (if (nuX c len pos neg).1 = true then (nuX c len pos neg).2.2 else num) c ∧ Fr (fun x => x = p) h h' := by
    intro h3 sg hsg g3 hf hc
    obtain ⟨h', q1, q2, q3⟩ := T18 g3 sg
    rw [hnu sg hsg]
    refine ⟨h', ?_, ?_, hf.trans q3⟩
    · rw [hc, q1]
      by_cases h4 : dgX c len (if sg = true then pos + 1 else pos) = true
      · rw [if_pos h4, h4]
      · rw [if_neg h4]
        rw [Bool.not_eq_true] at h4
        rw [h4]
    · by_cases h4 : dgX c len (if sg = true then pos + 1 else pos) = true
      · rw [if_pos h4, if_pos h4] at q2
        rw [if_pos h4]
        exact q2
      · rw [if_neg h4, if_neg h4] at q2
        rw [if_neg h4]
        exact q2
  cases neg
  · refine fin (h3 := h) false rfl g Fr.rfl ?_
    simp only [c0_X7_readsNumber, e_X7_readsNumber_0, e_X7_readsNumber_17, zI_0, if_true, if_false, eq_self, not_true_eq_false, not_false_eq_true]
    rfl
  · obtain ⟨h3, q1, q2, q3⟩ := c_X7_passes (sc := sc) g (nI 45)
    by_cases hp : psX c len pos (nI 45) = true
    · rw [hp] at q1
      rw [if_pos hp] at q2
      refine fin (h3 := h3) true (by rw [hp]; rfl) q2 q3 ?_
      simp only [c0_X7_readsNumber, e_X7_readsNumber_0, e_X7_readsNumber_4, e_X7_readsNumber_10, e_X7_readsNumber_13, bI_t g.ok, q1, bO_some, bF_I, bF_D, bF_C, bC_v, pk_mul, nI_add, Option.toList, List.cons_append, List.nil_append, zI_0, if_true, if_false, eq_self, not_true_eq_false, not_false_eq_true, reduceCtorEq]
      rfl
    · have hp2 := hp
      rw [Bool.not_eq_true] at hp2
      rw [hp2] at q1
      rw [if_neg hp] at q2
      refine fin (h3 := h3) false (by rw [hp2]; rfl) q2 q3 ?_
      simp only [c0_X7_readsNumber, e_X7_readsNumber_0, e_X7_readsNumber_4, e_X7_readsNumber_10, e_X7_readsNumber_17, bI_t g.ok, q1, bO_some, bF_I, bF_D, bF_C, bC_v, pk_mul, nI_add, Option.toList, List.cons_append, List.nil_append, zI_0, if_true, if_false, eq_self, not_true_eq_false, not_false_eq_true, reduceCtorEq]
      rfl
/-- the operands from o on: is the text right, where it ends, their numbers -/
def opX (c : Nat → Int32) (len k : Nat) : Nat → Nat → Nat → (Nat → Int32) → Bool × Nat × (Nat → Int32)
  | 0, _, pos, vs => (true, pos, vs)
  | d + 1, o, pos, vs =>
    if (fL k).getD o 0 = nI 45 then opX c len k d (o + 1) pos vs
    else if psX c len pos (nI 32) = true then
      (if (nuX c len (pos + 1) (decide ((fL k).getD o 0 = nI 110))).1 = true then opX c len k d (o + 1) (nuX c len (pos + 1) (decide ((fL k).getD o 0 = nI 110))).2.1 (upd vs o (nuX c len (pos + 1) (decide ((fL k).getD o 0 = nI 110))).2.2)
       else (false, (nuX c len (pos + 1) (decide ((fL k).getD o 0 = nI 110))).2.1, vs))
    else (false, pos, vs)
/-- an instruction that is read: is it one, where it ends, its kind, its operands -/
def inX (c : Nat → Int32) (len pos : Nat) : Bool × Nat × Nat × (Nat → Int32) := match knX c len pos with
  | none => (false, pos, 0, fun _ => 0)
  | some k => ((opX c len k 3 0 (pos + (wL k).length) (fun _ => 0)).1, (opX c len k 3 0 (pos + (wL k).length) (fun _ => 0)).2.1, k, (opX c len k 3 0 (pos + (wL k).length) (fun _ => 0)).2.2)
/-- the reader and its program in the heap -/
def RP (h : AH) (p pr len pos : Nat) (c : Nat → Int32) (m : Nat) (f : Nat → Int32) : Prop := (∃ num, RD h p pr len pos num c) ∧ PG h pr 150 m f
def SR (p pr : Nat) : Nat → Prop := fun x => x = p ∨ x = pr ∨ x = pr + 1
def ofV (f : Nat → Int32) (m : Nat) (vs : Nat → Int32) : Prop := f (m * 5 + 1) = vs 0 ∧ f (m * 5 + 2) = vs 1 ∧ f (m * 5 + 3) = vs 2
theorem l_ops (hp : p + 1 < pr) (hk : k < 12) (hm : n < 30) : ∀ d o, o + d = 3 → ∀ h pos vs f v4, RP h p pr len pos c (n + 1) f → ofV f n vs → ∃ h' f' pos', Run sc n_X7_readsInstruction 35 [aD p, aI (nI k), aI (nI n), aI (nI o), v4] none [] h = some (.inl (some (aI (zI (opX c len k d o pos vs).1))), h') ∧ pos' = (opX c len k d o pos vs).2.1 ∧ RP h' p pr len pos' c (n + 1) f' ∧ ofV f' n (opX c len k d o pos vs).2.2 ∧ (∀ j, (j < n * 5 + 1 ∨ n * 5 + 3 < j) → f' j = f j) ∧ Fr (SR p pr) h h' := by
  intro d
  induction d with
  | zero =>
    intro o ho h pos vs f v4 hr hv
    refine ⟨h, f, pos, ?_, rfl, hr, hv, fun _ _ => rfl, Fr.rfl⟩
    rw [e_X7_readsInstruction_35, if_pos (nI_le (by omega) (by omega)), e_X7_readsInstruction_112]
    rfl
  | succ d ih =>
    intro o ho h pos vs f v4 hr hv
    obtain ⟨⟨num, g⟩, gp⟩ := hr
    have h1 : ¬ nI 3 ≤ nI o := nI_ge (by omega) (by omega)
    have e1 := c_X4_sign (sc := sc) (h := h) hk (show o < 3 by omega)
    rw [e_X7_readsInstruction_35]
    simp only [e_X7_readsInstruction_40, e_X7_readsInstruction_45, e_X7_readsInstruction_49, h1, kinds_at hk, bI_t (kok hk), e1, bO_some, bF_I, bF_D, bF_C, bC_v, pk_mul, nI_add, Option.toList, List.cons_append, List.nil_append, zI_0, if_true, if_false, eq_self, not_true_eq_false, not_false_eq_true]
    unfold opX
    by_cases hs : (fL k).getD o 0 = nI 45
    · simp only [hs, zI_0, if_true, if_false, eq_self, not_true_eq_false, not_false_eq_true, e_X7_readsInstruction_58, e_X7_readsInstruction_106, bO_some, bF_I, bF_D, bF_C, bC_v, pk_mul, nI_add, Option.toList, List.cons_append, List.nil_append]
      exact ih (o + 1) (by omega) h pos vs f _ ⟨⟨num, g⟩, gp⟩ hv
    · obtain ⟨h2, q1, q2, q3⟩ := c_X7_passes (sc := sc) g (nI 32)
      simp only [hs, zI_0, if_true, if_false, eq_self, not_true_eq_false, not_false_eq_true, e_X7_readsInstruction_61, e_X7_readsInstruction_67, bI_t g.ok, q1, bO_some, bF_I, bF_D, bF_C, bC_v, pk_mul, nI_add, Option.toList, List.cons_append, List.nil_append]
      have q3' : Fr (SR p pr) h h2 := q3.mono (fun _ z => Or.inl z)
      have gp2 := gp.keep q3 (show ¬ pr = p by omega) (show ¬ pr + 1 = p by omega)
      by_cases hps : psX c len pos (nI 32) = true
      · rw [if_pos hps] at q2
        have t83 : Run sc n_X7_readsInstruction 70 [aD p, aI (nI k), aI (nI n), aI (nI o), aI ((fL k).getD o 0)] none [] h2 = Run sc n_X7_readsInstruction 83 [aD p, aI (nI k), aI (nI n), aI (nI o), aI ((fL k).getD o 0)] none [aI (zI (decide ((fL k).getD o 0 = nI 110))), aD p] h2 := by
          by_cases h110 : (fL k).getD o 0 = nI 110
          · simp only [e_X7_readsInstruction_70, e_X7_readsInstruction_78, h110, decide_true, zI_0, if_true, if_false, eq_self, not_true_eq_false, not_false_eq_true]
            rfl
          · simp only [e_X7_readsInstruction_70, e_X7_readsInstruction_82, h110, decide_false, zI_0, if_true, if_false, eq_self, not_true_eq_false, not_false_eq_true]
            rfl
        obtain ⟨h3, r1, r2, r3⟩ := c_X7_readsNumber (sc := sc) q2 (decide ((fL k).getD o 0 = nI 110))
        have r3' : Fr (SR p pr) h2 h3 := r3.mono (fun _ z => Or.inl z)
        have gp3 := gp2.keep r3 (show ¬ pr = p by omega) (show ¬ pr + 1 = p by omega)
        simp only [hps, zI_0, if_true, if_false, eq_self, not_true_eq_false, not_false_eq_true, reduceCtorEq, t83, e_X7_readsInstruction_83, e_X7_readsInstruction_86, bI_t q2.ok, r1, bO_some, bF_I, bF_D, bF_C, bC_v, pk_mul, nI_add, Option.toList, List.cons_append, List.nil_append]
        generalize nuX c len (pos + 1) (decide ((fL k).getD o 0 = nI 110)) = nu at *
        obtain ⟨nok, np, nv⟩ := nu
        simp only at r1 r2 ⊢
        cases nok
        · refine ⟨h3, f, np, ?_, rfl, ⟨⟨_, r2⟩, gp3⟩, hv, fun _ _ => rfl, q3'.trans r3'⟩
          simp only [e_X7_readsInstruction_89, zI_0, if_true, if_false, eq_self, not_true_eq_false, not_false_eq_true]
          rfl
        · rw [if_pos rfl] at r2
          have e5 := c_X6_put (sc := sc) (x := nv) gp3 (show n * 5 + (1 + o) < 150 by omega)
          have fr5 := gp3.fr (m := n + 1) (f' := upd f (n * 5 + (1 + o)) nv)
          have g5 := r2.keep fr5 (show ¬ (p = pr ∨ p = pr + 1) by omega) (show ¬ (p + 1 = pr ∨ p + 1 = pr + 1) by omega)
          have gp5 := gp3.to (f' := upd f (n * 5 + (1 + o)) nv) (show (n + 1) * 5 ≤ 150 by omega)
          have hv5 : ofV (upd f (n * 5 + (1 + o)) nv) n (upd vs o nv) := by
            obtain ⟨z1, z2, z3⟩ := hv
            have ho3 : o = 0 ∨ o = 1 ∨ o = 2 := by omega
            unfold ofV
            simp only [upd_eq]
            rcases ho3 with rfl | rfl | rfl
            · rw [if_pos (by omega), if_pos rfl, if_neg (by omega), if_neg (by omega), if_neg (by omega), if_neg (by omega)]
              exact ⟨rfl, z2, z3⟩
            · rw [if_neg (by omega), if_neg (by omega), if_pos (by omega), if_pos rfl, if_neg (by omega), if_neg (by omega)]
              exact ⟨z1, rfl, z3⟩
            · rw [if_neg (by omega), if_neg (by omega), if_neg (by omega), if_neg (by omega), if_pos (by omega), if_pos rfl]
              exact ⟨z1, z2, rfl⟩
          obtain ⟨h', f', pos', s1, s2, s3, s4, s5, s6⟩ := ih (o + 1) (by omega) _ np (upd vs o nv) (upd f (n * 5 + (1 + o)) nv) (aI ((fL k).getD o 0)) ⟨⟨_, g5⟩, gp5⟩ hv5
          refine ⟨h', f', pos', ?_, s2, s3, s4, ?_, ((q3'.trans r3').trans (fr5.mono (fun _ z => Or.inr z))).trans s6⟩
          · simp only [e_X7_readsInstruction_91, e_X7_readsInstruction_95, e_X7_readsInstruction_103, e_X7_readsInstruction_106, r2.f3, r2.f4, bI_t gp3.ok, e5, bO_some, bF_I, bF_D, bF_C, bC_v, pk_mul, nI_add, Option.toList, List.cons_append, List.nil_append, zI_0, if_true, if_false, eq_self, not_true_eq_false, not_false_eq_true, reduceCtorEq]
            exact s1
          · intro j hj
            rw [s5 j hj, upd_eq, if_neg (by omega)]
      · have hps' := hps
        rw [Bool.not_eq_true] at hps'
        rw [if_neg hps] at q2
        refine ⟨h2, f, pos, ?_, ?_, ⟨⟨num, q2⟩, gp2⟩, ?_, fun _ _ => rfl, q3'⟩
        · simp only [hps', e_X7_readsInstruction_89, zI_0, if_true, if_false, eq_self, not_true_eq_false, not_false_eq_true, reduceCtorEq]
          rfl
        · simp only [hps', zI_0, if_true, if_false, eq_self, not_true_eq_false, not_false_eq_true, reduceCtorEq]
        · simp only [hps', zI_0, if_true, if_false, eq_self, not_true_eq_false, not_false_eq_true, reduceCtorEq]
          exact hv
end
