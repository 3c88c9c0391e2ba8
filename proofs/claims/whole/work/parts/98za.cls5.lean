/-! PURE 74: the class's calls: candidates, fills, undo -/
section
variable {sc : SC} {h h' : AH} {S : Nat → Prop} {e km ks len sn n ch : Nat} {c ini : Nat → Int32} {X SX : Nat → Nat → Int32} {H : HTy} {L : List Int32} {K : KTy} {V : VTy}
theorem w_isWay (y : Int32) : Call sc n_X9_isWay [aI y] h = some (.inl (some (aI (zI (decide (IR 3 y))))), h) := by
  have b1 : ∀ b r, bI (retK (some FieldType.boolean) (zI b) = true) r = r := fun b r => bI_t (zI_ret b) r
  by_cases z1 : y < 0
  · have h2 : ¬ IR 3 y := fun z => z.1 z1
    rw [decide_eq_false h2]
    simp only [c0_X9_isWay, e_X9_isWay_0, e_X9_isWay_4, e_X9_isWay_9, e_X9_isWay_13, e_X9_isWay_14, bO_some, bF_I, bF_D, bF_C, bC_v, pk_mul, nI_add, Option.toList, List.cons_append, List.nil_append, z1, zI_0, if_true, if_false, eq_self, not_true_eq_false, not_false_eq_true, reduceCtorEq]
    exact b1 false _
  · by_cases z2 : nI 3 ≤ y
    · have h2 : ¬ IR 3 y := fun z => z.2 z2
      rw [decide_eq_false h2]
      simp only [c0_X9_isWay, e_X9_isWay_0, e_X9_isWay_4, e_X9_isWay_9, e_X9_isWay_13, e_X9_isWay_14, bO_some, bF_I, bF_D, bF_C, bC_v, pk_mul, nI_add, Option.toList, List.cons_append, List.nil_append, z1, z2, zI_0, if_true, if_false, eq_self, not_true_eq_false, not_false_eq_true, reduceCtorEq]
      exact b1 false _
    · rw [decide_eq_true (show IR 3 y from ⟨z1, z2⟩)]
      simp only [c0_X9_isWay, e_X9_isWay_0, e_X9_isWay_4, e_X9_isWay_9, e_X9_isWay_13, e_X9_isWay_14, bO_some, bF_I, bF_D, bF_C, bC_v, pk_mul, nI_add, Option.toList, List.cons_append, List.nil_append, z1, z2, zI_0, if_true, if_false, eq_self, not_true_eq_false, not_false_eq_true, reduceCtorEq]
      exact b1 true _
theorem ite3_c {a b c a' b' c' : Prop} [Decidable a] [Decidable b] [Decidable c] [Decidable a'] [Decidable b'] [Decidable c'] {t u v w : Nat} (ha : a ↔ a') (hb : b ↔ b') (hc : c ↔ c') : (if a then t else if b then u else if c then v else w) = (if a' then t else if b' then u else if c' then v else w) := by
  by_cases h1 : a
  · rw [if_pos h1, if_pos (ha.mp h1)]
  · rw [if_neg h1, if_neg (fun z => h1 (ha.mpr z))]
    by_cases h2 : b
    · rw [if_pos h2, if_pos (hb.mp h2)]
    · rw [if_neg h2, if_neg (fun z => h2 (hb.mpr z))]
      by_cases h3 : c
      · rw [if_pos h3, if_pos (hc.mp h3)]
      · rw [if_neg h3, if_neg (fun z => h3 (hc.mpr z))]
theorem pr_c {n : Nat} {X : Nat → Nat → Int32} (x y : Int32) : prX X n x y = if ¬ IR n x then 1 else if ¬ IR 3 y then 2 else if ¬ esX X x.toNatClampNeg = true then 3 else if fdX X n x.toNatClampNeg y.toNatClampNeg = none then 4 else 0 := by
  have h6 := inR (n := 2) (by omega) y
  rw [decide_eq_decide] at h6
  have h7 : (kBr (kx X x.toNatClampNeg) = true ∧ kx X (x.toNatClampNeg + 1) = 0) ↔ esX X x.toNatClampNeg = true := by
    unfold esX
    rw [Bool.and_eq_true, Nat.beq_eq]
  unfold prX
  exact ite3_c Iff.rfl (not_congr h6) (not_congr h7)
theorem k_candidate (g : CI h len c L sn SX n X ch H ini K V) (hn : n ≤ 60) (hw : WF n X) (x y : Int32) : ∃ E h1, Call sc n_X9_candidate [aD 0, aI x, aI y] h = (if prX X n x y = 0 then some (.inl (some (aI (enc (fdX X n x.toNatClampNeg y.toNatClampNeg)))), h1) else some (.inr E, h1)) ∧ ((prX X n x y = 1 → E = 2) ∧ (prX X n x y = 2 → E = 1) ∧ (prX X n x y = 3 → E = 0) ∧ (prX X n x y = 4 → E = 5)) ∧ CI h1 len c L sn SX n X ch H ini K V ∧ ∃ e, e ≤ 1 ∧ LK SCl e h h1 ∧ (prX X n x y = 0 → e = 0) := by
  obtain ⟨km, ks, bo⟩ := g.bo
  have g4 := g.2.2.2.1
  obtain ⟨p1, ⟨l, r, w, s, p2⟩, ⟨f, s1, s2⟩, _⟩ := g.2.2.2.1
  have hw' : WF n (xC n f) := by
    rw [s2]
    exact hw
  have e1 := c_X6_has (sc := sc) s1 x
  have e2 := w_isWay (sc := sc) (h := h) y
  have ex := LK.exc SCl h
  rw [pr_c]
  by_cases h1 : IR n x
  · rw [has_IR h1] at e1
    rw [if_neg (fun z => z h1)]
    by_cases h2 : IR 3 y
    · rw [decide_eq_true h2] at e2
      rw [if_neg (fun z => z h2)]
      obtain ⟨b, hb, rfl⟩ := has_ex (by omega) h1
      obtain ⟨way, hway, rfl⟩ := has_ex (by omega) h2
      rw [nI_clamp (show b < 2 ^ 31 by omega), nI_clamp (show way < 2 ^ 31 by omega)]
      have e3 := c_X6_hasEmptySlot (sc := sc) s1 hw'.1 hb (fun z => hw'.2.2.1 b hb z)
      rw [s2] at e3
      cases he : esX X b
      · rw [he] at e3
        rw [if_pos (show ¬ false = true by decide)]
        refine ⟨0, (h.1, h.2 + 1), ?_, ⟨(fun z => by cases z), (fun z => by cases z), (fun _ => rfl), (fun z => by cases z)⟩, g.exc, 1, by omega, ex, (fun z => by cases z)⟩
        simp only [c0_X9_candidate, e_X9_candidate_0, e_X9_candidate_4, e_X9_candidate_8, e_X9_candidate_11, e_X9_candidate_21, e_X9_candidate_25, e_X9_candidate_28, e_X9_candidate_38, e_X9_candidate_42, e_X9_candidate_46, e_X9_candidate_49, e_X9_candidate_59, e_X9_candidate_63, e_X9_candidate_68, e_X9_candidate_74, e_X9_candidate_84, bo.f3, bO_some, bF_I, bF_D, bF_C, bC_v, pk_mul, nI_add, Option.toList, List.cons_append, List.nil_append, bI_t s1.ok, e1, e2, e3, zI_0, if_true, if_false, eq_self, not_true_eq_false, not_false_eq_true, reduceCtorEq]
      · rw [he] at e3
        rw [if_neg (show ¬ ¬ true = true by decide)]
        have hk : kBr (kx X b) = true := by
          unfold esX at he
          rw [Bool.and_eq_true] at he
          exact he.1
        obtain ⟨l', r', w', q1⟩ := c_X1_find (sc := sc) p1 (by omega) p2 s1 (by omega) hw'.1 hw'.2.1 hw'.2.2.1 hb (by rw [s2]; exact hk) hway
        rw [s2] at q1
        have lk := LK.of (p2.fr (l' := l') (r' := r') (w' := w'))
        have gC := g.to4 lk (fun p z => by first | omega | (dsimp only; omega)) (g4.flow (fun p hp => lk.2.2.1 p (by first | omega | (dsimp only; omega))) (p2.to (l' := l') (r' := r') (w' := w')))
        have lks := lk.mono (T := SCl) (fun p z => by unfold SCl; first | omega | (dsimp only at z; omega))
        have ok1 : rOK sc h (aD 16) 4 = true := rOK_D p1
        cases hf : fdX X n b way with
        | none =>
          rw [if_pos rfl]
          rw [hf, enc_n] at q1
          refine ⟨5, _, ?_, ⟨(fun z => by cases z), (fun z => by cases z), (fun z => by cases z), (fun _ => rfl)⟩, gC.exc, 1, by omega, lks.trans (LK.exc SCl _), (fun z => by cases z)⟩
          simp only [c0_X9_candidate, e_X9_candidate_0, e_X9_candidate_4, e_X9_candidate_8, e_X9_candidate_11, e_X9_candidate_21, e_X9_candidate_25, e_X9_candidate_28, e_X9_candidate_38, e_X9_candidate_42, e_X9_candidate_46, e_X9_candidate_49, e_X9_candidate_59, e_X9_candidate_63, e_X9_candidate_68, e_X9_candidate_74, e_X9_candidate_84, bo.f3, bo.f5, bO_some, bF_I, bF_D, bF_C, bC_v, pk_mul, nI_add, Option.toList, List.cons_append, List.nil_append, bI_t s1.ok, bI_t ok1, e1, e2, e3, q1, zI_0, if_true, if_false, eq_self, not_true_eq_false, not_false_eq_true, reduceCtorEq]
        | some j =>
          rw [if_neg (fun z => by cases z)]
          have hj := (fd_ok hb hw hk hf).1
          rw [hf, enc_s] at q1
          have hj1 := enc_ne (a := j) (by omega)
          refine ⟨0, _, ?_, ⟨(fun z => by cases z), (fun z => by cases z), (fun z => by cases z), (fun z => by cases z)⟩, gC, 0, by omega, lks, fun _ => rfl⟩
          simp only [c0_X9_candidate, e_X9_candidate_0, e_X9_candidate_4, e_X9_candidate_8, e_X9_candidate_11, e_X9_candidate_21, e_X9_candidate_25, e_X9_candidate_28, e_X9_candidate_38, e_X9_candidate_42, e_X9_candidate_46, e_X9_candidate_49, e_X9_candidate_59, e_X9_candidate_63, e_X9_candidate_68, e_X9_candidate_74, e_X9_candidate_84, bo.f3, bo.f5, bO_some, bF_I, bF_D, bF_C, bC_v, pk_mul, nI_add, Option.toList, List.cons_append, List.nil_append, bI_t s1.ok, bI_t ok1, e1, e2, e3, q1, hj1, zI_0, if_true, if_false, eq_self, not_true_eq_false, not_false_eq_true, reduceCtorEq]
          rfl
    · rw [decide_eq_false h2] at e2
      rw [if_pos h2]
      refine ⟨1, (h.1, h.2 + 1), ?_, ⟨(fun z => by cases z), (fun _ => rfl), (fun z => by cases z), (fun z => by cases z)⟩, g.exc, 1, by omega, ex, (fun z => by cases z)⟩
      simp only [c0_X9_candidate, e_X9_candidate_0, e_X9_candidate_4, e_X9_candidate_8, e_X9_candidate_11, e_X9_candidate_21, e_X9_candidate_25, e_X9_candidate_28, e_X9_candidate_38, e_X9_candidate_42, e_X9_candidate_46, e_X9_candidate_49, e_X9_candidate_59, e_X9_candidate_63, e_X9_candidate_68, e_X9_candidate_74, e_X9_candidate_84, bo.f3, bO_some, bF_I, bF_D, bF_C, bC_v, pk_mul, nI_add, Option.toList, List.cons_append, List.nil_append, bI_t s1.ok, e1, e2, zI_0, if_true, if_false, eq_self, not_true_eq_false, not_false_eq_true, reduceCtorEq]
  · rw [has_nIR h1] at e1
    rw [if_pos h1]
    refine ⟨2, (h.1, h.2 + 1), ?_, ⟨(fun _ => rfl), (fun z => by cases z), (fun z => by cases z), (fun z => by cases z)⟩, g.exc, 1, by omega, ex, (fun z => by cases z)⟩
    simp only [c0_X9_candidate, e_X9_candidate_0, e_X9_candidate_4, e_X9_candidate_8, e_X9_candidate_11, e_X9_candidate_21, e_X9_candidate_25, e_X9_candidate_28, e_X9_candidate_38, e_X9_candidate_42, e_X9_candidate_46, e_X9_candidate_49, e_X9_candidate_59, e_X9_candidate_63, e_X9_candidate_68, e_X9_candidate_74, e_X9_candidate_84, bo.f3, bO_some, bF_I, bF_D, bF_C, bC_v, pk_mul, nI_add, Option.toList, List.cons_append, List.nil_append, bI_t s1.ok, e1, zI_0, if_true, if_false, eq_self, not_true_eq_false, not_false_eq_true, reduceCtorEq]
theorem k_fill (g : CI h len c L sn SX n X ch H ini K V) (hn : n ≤ 60) (hw : WF n X) (x y : Int32) : (¬ prX X n x y = 0 ∧ ∃ E h1, Call sc n_X9_fill [aD 0, aI x, aI y] h = some (.inr E, h1) ∧ ((prX X n x y = 1 → E = 2) ∧ (prX X n x y = 2 → E = 1) ∧ (prX X n x y = 3 → E = 0) ∧ (prX X n x y = 4 → E = 5)) ∧ CI h1 len c L sn SX n X ch H ini K V ∧ ∃ e, e ≤ 1 ∧ LK SCl e h h1) ∨ (prX X n x y = 0 ∧ ∃ b way e h1, x = nI b ∧ b < n ∧ y = nI way ∧ way < 3 ∧ kBr (kx X b) = true ∧ kx X (b + 1) = 0 ∧ fdX X n b way = some e ∧ Call sc n_X9_fill [aD 0, aI x, aI y] h = some (.inl (some (aI (if way = 0 then nI b - nI 1 else nI b))), h1) ∧ CI h1 len c L sn SX (mvN n way) (mvX X n b way e) (psN ch) (hsH ch H n X) ini K V ∧ LK SCl 0 h h1 ∧ mvN n way ≤ 60 ∧ WF (mvN n way) (mvX X n b way e)) := by
  obtain ⟨km, ks, bo⟩ := g.bo
  obtain ⟨E, h2, q1, q2, q3, e, q4, q5, q6⟩ := k_candidate (sc := sc) g hn hw x y
  have ok0 := bo.ok (sc := sc)
  by_cases hc : prX X n x y = 0
  · refine Or.inr ⟨hc, ?_⟩
    obtain ⟨b, way, j, rfl, hb, rfl, hway, hk, hnop, hf⟩ := pr_0 hn hc
    have he0 := q6 hc
    subst he0
    rw [if_pos hc, nI_clamp (show b < 2 ^ 31 by omega), nI_clamp (show way < 2 ^ 31 by omega), hf, enc_s] at q1
    obtain ⟨km2, ks2, bo2⟩ := q3.bo
    obtain ⟨h3, r1, r2, r3⟩ := k_rem (sc := sc) q3.2.2.2.1
    have lk3 := LK.of r3
    have gB := q3.to4 lk3 (fun p z => by first | omega | (dsimp only; omega)) r2
    have bo3 := bo2.lk lk3 (by first | omega | (dsimp only; omega))
    have okH := q3.2.2.2.1.okH (sc := sc)
    have r20 := r2
    obtain ⟨p1, _, ⟨f, s1, s2⟩, _⟩ := r2
    have hw' : WF n (xC n f) := by
      rw [s2]
      exact hw
    have hk' : kBr (kx (xC n f) b) = true := by
      rw [s2]
      exact hk
    have h5 := fd_ok hb hw hk hf
    have h6 := mv_ok hw (by omega) hb hk h5.1 h5.2.1 h5.2.2.1 h5.2.2.2 (fun z1 z2 => fd_fall z1 z2 hf)
    have hm : mvN n way ≤ 60 := by
      unfold mvN
      split <;> omega
    obtain ⟨f', t1, t2⟩ := c_X1_move (sc := sc) p1 s1 (by omega) hw' hb hk' h5.1 hway
    rw [s2] at t2
    have lk4 := LK.of (s1.fr (m := mvN n way) (f' := f'))
    have s1' := s1.to (m := mvN n way) (f' := f') (by omega)
    have c4 := C4.form r20 lk4.2.2.1 s1'
    rw [t2] at c4
    have ok1 : rOK sc h3 (aD 16) 4 = true := rOK_D p1
    refine ⟨b, way, j, _, rfl, hb, rfl, hway, hk, hnop, hf, ?_, gB.to4 lk4 (fun p z => by first | omega | (dsimp only; omega)) c4, (q5.trans (lk3.mono (fun p z => by unfold SCl; first | omega | (dsimp only at z; omega)))).trans (lk4.mono (fun p z => by unfold SCl; first | omega | (dsimp only at z; omega))), hm, h6.1⟩
    simp only [c0_X9_fill, e_X9_fill_0, e_X9_fill_6, e_X9_fill_11, e_X9_fill_15, e_X9_fill_18, e_X9_fill_22, e_X9_fill_28, ok0, q1, bo2.f6, bo2.f3, bo3.f5, bO_some, bF_I, bF_D, bF_C, bC_v, pk_mul, nI_add, Option.toList, List.cons_append, List.nil_append, bI_t okH, bI_t ok1, r1, t1, zI_0, if_true, if_false, eq_self, not_true_eq_false, not_false_eq_true, reduceCtorEq]
  · rw [if_neg hc] at q1
    refine Or.inl ⟨hc, E, h2, ?_, q2, q3, e, q4, q5⟩
    simp only [c0_X9_fill, e_X9_fill_0, e_X9_fill_6, e_X9_fill_11, e_X9_fill_15, e_X9_fill_18, e_X9_fill_22, e_X9_fill_28, ok0, q1, bO_some, bF_I, bF_D, bF_C, bC_v, pk_mul, nI_add, Option.toList, List.cons_append, List.nil_append, zI_0, if_true, if_false, eq_self, not_true_eq_false, not_false_eq_true, reduceCtorEq]
    rfl
theorem k_fillAll (g : CI h len c L sn SX n X ch H ini K V) (hn : n ≤ 60) (hw : WF n X) (x y : Int32) : (cdFa x y = 1 ∧ Call sc n_X9_fillAll [aD 0, aI x, aI y] h = some (.inr 1, (h.1, h.2 + 1))) ∨ (cdFa x y = 0 ∧ ∃ w1 w2 h1, x = nI w1 ∧ w1 < 3 ∧ y = nI w2 ∧ w2 < 3 ∧ ¬ w1 = w2 ∧ Call sc n_X9_fillAll [aD 0, aI x, aI y] h = some (.inl (some (aI (nI (faX w1 w2 (3 - w1 - w2) 60 (n, X, 0, 0)).2.2.2))), h1) ∧ CI h1 len c L sn SX (faX w1 w2 (3 - w1 - w2) 60 (n, X, 0, 0)).1 (faX w1 w2 (3 - w1 - w2) 60 (n, X, 0, 0)).2.1 (psN ch) (hsH ch H n X) ini K V ∧ LK SCl 0 h h1 ∧ WF (faX w1 w2 (3 - w1 - w2) 60 (n, X, 0, 0)).1 (faX w1 w2 (3 - w1 - w2) 60 (n, X, 0, 0)).2.1 ∧ (faX w1 w2 (3 - w1 - w2) 60 (n, X, 0, 0)).1 ≤ 60) := by
  obtain ⟨km, ks, bo⟩ := g.bo
  have e1 := w_isWay (sc := sc) (h := h) x
  have e2 := w_isWay (sc := sc) (h := h) y
  unfold cdFa
  by_cases h1 : IR 3 x
  · rw [decide_eq_true h1] at e1
    by_cases h2 : IR 3 y
    · rw [decide_eq_true h2] at e2
      by_cases h3 : x = y
      · rw [if_neg (fun z => z.2.2 h3)]
        refine Or.inl ⟨rfl, ?_⟩
        simp only [c0_X9_fillAll, e_X9_fillAll_0, e_X9_fillAll_4, e_X9_fillAll_7, e_X9_fillAll_11, e_X9_fillAll_14, e_X9_fillAll_19, e_X9_fillAll_29, e_X9_fillAll_33, e_X9_fillAll_37, e_X9_fillAll_40, e_X9_fillAll_44, e_X9_fillAll_49, bO_some, bF_I, bF_D, bF_C, bC_v, pk_mul, nI_add, Option.toList, List.cons_append, List.nil_append, e1, e2, zI_0, if_true, if_false, eq_self, not_true_eq_false, not_false_eq_true, reduceCtorEq, h3]
      · rw [if_pos ⟨h1, h2, h3⟩]
        refine Or.inr ⟨rfl, ?_⟩
        obtain ⟨w1, hw1, rfl⟩ := has_ex (by omega) h1
        obtain ⟨w2, hw2, rfl⟩ := has_ex (by omega) h2
        have hne : ¬ w1 = w2 := fun z => h3 (by rw [z])
        have g4 := g.2.2.2.1
        obtain ⟨h3', r1, r2, r3⟩ := k_rem (sc := sc) g4
        have lk3 := LK.of r3
        have gB := g.to4 lk3 (fun p z => by first | omega | (dsimp only; omega)) r2
        have bo3 := bo.lk lk3 (by first | omega | (dsimp only; omega))
        have okH := g4.okH (sc := sc)
        have r20 := r2
        obtain ⟨p1, ⟨l, r, w, s, p2⟩, ⟨f, s1, s2⟩, _⟩ := r2
        obtain ⟨h4, t1, t2, t3, t4, t5⟩ := c_X1_fillEach (sc := sc) hw1 hw2 hne (by omega) (by omega) (show CS h3' 16 9 11 300 s n X from ⟨p1, l, r, w, f, p2, s1, s2⟩) hw hn
        have lk4 := LK.of t5
        obtain ⟨v1, l', r', w', f', v2, v3, v4⟩ := t2
        have ok1 : rOK sc h3' (aD 16) 4 = true := rOK_D p1
        have c4 : C4 h4 (faX w1 w2 (3 - w1 - w2) 60 (n, X, 0, 0)).1 (faX w1 w2 (3 - w1 - w2) 60 (n, X, 0, 0)).2.1 (psN ch) (hsH ch H n X) := by
          obtain ⟨_, _, _, nx, g5, g6, g7, g8⟩ := r20
          have hf : HG (SF 9 11) h3' h4 := lk4.2.2.1
          refine ⟨v1, ⟨l', r', w', s, v2⟩, ⟨f', v3, v4⟩, nx, g5.hg hf (by unfold SF; omega) (by unfold SF; omega), g6, g7, fun i hi => ?_⟩
          obtain ⟨ni, fi, z1, z2⟩ := g8 i hi
          exact ⟨ni, fi, z1.hg hf (by unfold SF; omega) (by unfold SF; omega), z2⟩
        refine ⟨w1, w2, h4, rfl, hw1, rfl, hw2, hne, ?_, gB.to4 lk4 (fun p z => by unfold SF; omega) c4, (lk3.mono (fun p z => by unfold SCl; first | omega | (dsimp only at z; omega))).trans (lk4.mono (fun p z => by unfold SF at z; unfold SCl; omega)), t3, t4⟩
        simp only [c0_X9_fillAll, e_X9_fillAll_0, e_X9_fillAll_4, e_X9_fillAll_7, e_X9_fillAll_11, e_X9_fillAll_14, e_X9_fillAll_19, e_X9_fillAll_29, e_X9_fillAll_33, e_X9_fillAll_37, e_X9_fillAll_40, e_X9_fillAll_44, e_X9_fillAll_49, bO_some, bF_I, bF_D, bF_C, bC_v, pk_mul, nI_add, Option.toList, List.cons_append, List.nil_append, e1, e2, h3, bo.f6, bo.f3, bo3.f5, bI_t okH, bI_t ok1, r1, t1, zI_0, if_true, if_false, eq_self, not_true_eq_false, not_false_eq_true, reduceCtorEq]
    · rw [decide_eq_false h2] at e2
      rw [if_neg (fun z => h2 z.2.1)]
      refine Or.inl ⟨rfl, ?_⟩
      simp only [c0_X9_fillAll, e_X9_fillAll_0, e_X9_fillAll_4, e_X9_fillAll_7, e_X9_fillAll_11, e_X9_fillAll_14, e_X9_fillAll_19, e_X9_fillAll_29, e_X9_fillAll_33, e_X9_fillAll_37, e_X9_fillAll_40, e_X9_fillAll_44, e_X9_fillAll_49, bO_some, bF_I, bF_D, bF_C, bC_v, pk_mul, nI_add, Option.toList, List.cons_append, List.nil_append, e1, e2, zI_0, if_true, if_false, eq_self, not_true_eq_false, not_false_eq_true, reduceCtorEq]
  · rw [decide_eq_false h1] at e1
    rw [if_neg (fun z => h1 z.1)]
    refine Or.inl ⟨rfl, ?_⟩
    simp only [c0_X9_fillAll, e_X9_fillAll_0, e_X9_fillAll_4, e_X9_fillAll_7, e_X9_fillAll_11, e_X9_fillAll_14, e_X9_fillAll_19, e_X9_fillAll_29, e_X9_fillAll_33, e_X9_fillAll_37, e_X9_fillAll_40, e_X9_fillAll_44, e_X9_fillAll_49, bO_some, bF_I, bF_D, bF_C, bC_v, pk_mul, nI_add, Option.toList, List.cons_append, List.nil_append, e1, zI_0, if_true, if_false, eq_self, not_true_eq_false, not_false_eq_true, reduceCtorEq]
theorem k_undo (g : CI h len c L sn SX n X ch H ini K V) (hch : ch ≤ 8) : (ch = 0 ∧ Call sc n_X9_undo [aD 0] h = some (.inr 0, (h.1, h.2 + 1))) ∨ (0 < ch ∧ ∃ h1, Call sc n_X9_undo [aD 0] h = some (.inl (some (aI (nI (ch - 1)))), h1) ∧ CI h1 len c L sn SX (H (ch - 1)).1 (H (ch - 1)).2 (ch - 1) H ini K V ∧ LK SCl 0 h h1) := by
  obtain ⟨km, ks, bo⟩ := g.bo
  have g4 := g.2.2.2.1
  obtain ⟨g1, ⟨l, r, w, s, g2⟩, ⟨f, s1, s2⟩, nx, g5, g6, g7, g8⟩ := g4
  by_cases h0 : ch = 0
  · subst h0
    refine Or.inl ⟨rfl, ?_⟩
    have z0 : nI 0 = 0 := rfl
    simp only [c0_X9_undo, e_X9_undo_0, e_X9_undo_4, e_X9_undo_7, e_X9_undo_10, e_X9_undo_20, e_X9_undo_24, e_X9_undo_28, e_X9_undo_31, e_X9_undo_35, e_X9_undo_38, bO_some, bF_I, bF_D, bF_C, bC_v, pk_mul, nI_add, Option.toList, List.cons_append, List.nil_append, bo.f6, g5.f2, z0, zI_0, if_true, if_false, eq_self, not_true_eq_false, not_false_eq_true, reduceCtorEq]
  · refine Or.inr ⟨by omega, ?_⟩
    have hne : ¬ nI ch = 0 := fun z => h0 (nI_inj (b := 0) (by omega) (by omega) z)
    obtain ⟨n1, f1, p1, p2⟩ := g8 ((nx + 7) % 8) (by omega)
    have hH := p2 (ch - 1) (by omega) (by omega)
    obtain ⟨h2, f', q1, q2, q3, q4, q5⟩ := c_X3_takeBack (sc := sc) g5 g6 (by omega) g7 s1 p1 (by omega) (by omega)
    have hf : HG (fun x => x = 17 ∨ x = 9 ∨ x = 9 + 1) h h2 := q5.2.2.1
    have lk := LK.of q5
    have bo2 := bo.lk lk (by first | omega | (dsimp only; omega))
    have c4 : C4 h2 (H (ch - 1)).1 (H (ch - 1)).2 (ch - 1) H := by
      rw [← hH]
      refine ⟨(hf 16 (by first | omega | (dsimp only; omega))).trans g1, ⟨l, r, w, s, g2.hg hf (fun p h1 h2 => by first | omega | (dsimp only; omega))⟩, ⟨f', q3, q4⟩, (nx + 7) % 8, q2, by omega, by omega, fun i hi => ?_⟩
      obtain ⟨ni, fi, z1, z2⟩ := g8 i hi
      exact ⟨ni, fi, z1.hg hf (by first | omega | (dsimp only; omega)) (by first | omega | (dsimp only; omega)), fun k hk hh => z2 k (by omega) (by omega)⟩
    refine ⟨h2, ?_, g.to4 lk (fun p z => by first | omega | (dsimp only; omega)) c4, lk.mono (fun p z => by unfold SCl; first | omega | (dsimp only at z; omega))⟩
    simp only [c0_X9_undo, e_X9_undo_0, e_X9_undo_4, e_X9_undo_7, e_X9_undo_10, e_X9_undo_20, e_X9_undo_24, e_X9_undo_28, e_X9_undo_31, e_X9_undo_35, e_X9_undo_38, bO_some, bF_I, bF_D, bF_C, bC_v, pk_mul, nI_add, Option.toList, List.cons_append, List.nil_append, bo.f6, bo.f3, bo2.f6, g5.f2, hne, bI_t g5.ok, q1, q2.f2, zI_0, if_true, if_false, eq_self, not_true_eq_false, not_false_eq_true, reduceCtorEq]
end
