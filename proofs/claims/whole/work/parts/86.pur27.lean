/-! PURE 27: the writer: instructions, the program -/
def osT (X : Nat → Nat → Int32) (i : Nat) : Nat → Nat → List Int32
  | 0, _ => []
  | d + 1, o => opT X i o ++ osT X i d (o + 1)
theorem insT_eq (X : Nat → Nat → Int32) (i : Nat) : insT X i = (wL (kx X i) ++ (if X i 4 = nI 1 then [nI 42] else [])) ++ osT X i 3 0 := by
  unfold insT
  show _ = _ ++ (opT X i 0 ++ (opT X i 1 ++ (opT X i 2 ++ [])))
  rw [List.append_nil, List.append_assoc, List.append_assoc]
section
variable {sc : SC} {h h' h'' : AH} {p q r N m k i j n a Nr sb : Nat} {tx f : Nat → Int32} {S : Nat → Prop} {x : Int32} {L L' w : List Int32} {v3 v4 : AV}
/-- the writer, its builder and the program that it writes lie apart -/
def EV (h : AH) (p sb r q Nr n : Nat) (f : Nat → Int32) : Prop := WTR h p sb ∧ PG h r Nr n f ∧ ¬ p = sb ∧ ¬ p = q ∧ ¬ r = sb ∧ ¬ r = q ∧ ¬ r + 1 = sb ∧ ¬ r + 1 = q
theorem EV.kb {q' N' : Nat} (g : EV h p sb r q Nr n f) (hf : FB (BX sb q) h h' N N') (hq : q' = q ∨ h.1.length ≤ q') : EV h' p sb r q' Nr n f := by
  obtain ⟨g1, g2, g3, g4, g5, g6, g7, g8⟩ := g
  have l1 := hget_lt g1
  have l2 := hget_lt g2.1
  have l3 := hget_lt g2.2.1
  exact ⟨g1.kb hf g3 g4, g2.kb hf g5 g6 g7 g8, g3, by omega, g5, by omega, g7, by omega⟩
theorem WF.c3 {X : Nat → Nat → Int32} (hw : WF n X) (hi : i < n) {o : Nat} (ho : o < 3) : -100 < (X i (1 + o)).toInt ∧ (X i (1 + o)).toInt < 100 := by
  obtain ⟨v1, v2, v3, v4, v5, v6, v7⟩ := hw
  have h3 : o = 0 ∨ o = 1 ∨ o = 2 := by omega
  obtain ⟨a, b, h4, h5, h6, h7⟩ := v6 i hi
  rcases h3 with rfl | rfl | rfl
  · show -100 < (X i 1).toInt ∧ (X i 1).toInt < 100
    rw [h4, nI_toInt (by omega)]
    omega
  · show -100 < (X i 2).toInt ∧ (X i 2).toInt < 100
    rw [h6, nI_toInt (by omega)]
    omega
  · exact (v7 i hi).2
theorem opT_len {X : Nat → Nat → Int32} (hw : WF n X) (hi : i < n) {o : Nat} (ho : o < 3) : (opT X i o).length ≤ 4 := by
  unfold opT
  split
  · exact Nat.zero_le _
  · have h1 := hw.c3 hi ho
    have := nmT_len h1.1 h1.2
    rw [List.length_cons]
    omega
theorem l_wops (hw : WF n (xC n f)) (hi : i < n) : ∀ d o, o + d = 3 → ∀ h q N L, EV h p sb r q Nr n f → SBL h sb q N L → L.length + 4 * d ≤ 1200 → ∃ h', Run sc n_X8_writeInstruction 39 [aD p, aD r, aI (nI i), aC (kx (xC n f) i + 1), aI (nI o)] none [] h = some (.inl none, h') ∧ BR sb h q N h' (L ++ osT (xC n f) i d o) := by
  intro d
  induction d with
  | zero =>
    intro o ho h q N L g b hm
    refine ⟨h, ?_, q, N, ?_, FB.of Fr.rfl, Or.inl rfl⟩
    · rw [e_X8_writeInstruction_39, if_pos (nI_le (by omega) (by omega)), e_X8_writeInstruction_85]
    · show SBL h sb q N (L ++ [])
      rw [List.append_nil]
      exact b
  | succ d ih =>
    intro o ho h q N L g b hm
    have k1 := (hw.1 i hi).2
    have h1 : ¬ nI 3 ≤ nI o := nI_ge (by omega) (by omega)
    have e1 := c_X4_sign (sc := sc) (h := h) k1 (show o < 3 by omega)
    rw [e_X8_writeInstruction_39, if_neg h1]
    simp only [e_X8_writeInstruction_45, e_X8_writeInstruction_51, bI_t (kok k1), e1, bO_some, bF_I, bF_D, bF_C, bC_v, pk_mul, nI_add, Option.toList, List.cons_append, List.nil_append]
    unfold osT opT
    by_cases hs : (fL (kx (xC n f) i)).getD o 0 = nI 45
    · rw [if_pos hs, if_pos hs, e_X8_writeInstruction_79, nI_add, List.nil_append]
      exact ih (o + 1) (by omega) h q N L g b (by omega)
    · rw [if_neg hs, if_neg hs]
      obtain ⟨h1', e2, q1, N1, b1, b2, b3⟩ := b_append (sc := sc) (x := nI 32) b ⟨32, by omega, rfl⟩ (by omega)
      have g1 := g.kb b2 b3
      have c3 := hw.c3 hi (show o < 3 by omega)
      have hl : (L ++ [nI 32]).length = L.length + 1 := by
        rw [List.length_append]
        rfl
      have e3 := c_X6_part (sc := sc) g1.2.1 hi (show 1 + o < 5 by omega)
      obtain ⟨h2', e4, q2, N2, b4, b5, b6⟩ := c_X8_writeNumber (sc := sc) g1.1 b1 g1.2.2.2.1 g1.2.2.1 c3.1 c3.2 (by omega)
      have hl2 : ((L ++ [nI 32]) ++ nmT (xC n f i (1 + o))).length ≤ L.length + 4 := by
        have := nmT_len c3.1 c3.2
        rw [List.length_append]
        omega
      obtain ⟨h', e5, e6⟩ := ih (o + 1) (by omega) h2' q2 N2 ((L ++ [nI 32]) ++ nmT (xC n f i (1 + o))) (g1.kb b5 b6) b4 (by omega)
      refine ⟨h', ?_, ?_⟩
      · simp only [e_X8_writeInstruction_56, e_X8_writeInstruction_60, e_X8_writeInstruction_65, e_X8_writeInstruction_76, e_X8_writeInstruction_79, g.1.f0, bI_t (SB.ok b), e2, bI_t g1.2.1.ok, e3, bI_t g1.1.ok, e4, bO_some, bF_I, bF_D, bF_C, bC_v, pk_mul, nI_add, Option.toList, List.cons_append, List.nil_append]
        exact e5
      · have h9 := BR.seq ⟨b2, b3⟩ (BR.seq ⟨b5, b6⟩ e6)
        rw [List.append_assoc, List.append_assoc] at h9
        exact h9
theorem c_X8_writeInstruction (g : EV h p sb r q Nr n f) (b : SBL h sb q N L) (hw : WF n (xC n f)) (hi : i < n) (hm : L.length + 18 ≤ 1200) : ∃ h', Call sc n_X8_writeInstruction [aD p, aD r, aI (nI i)] h = some (.inl none, h') ∧ BR sb h q N h' (L ++ insT (xC n f) i) := by
  have k1 := (hw.1 i hi).2
  have e1 := c_X6_kind (sc := sc) g.2.1 hw.1 hi
  obtain ⟨h1, e2, q1, N1, b1, b2, b3⟩ := b_appendW (sc := sc) b k1 (by omega)
  have g1 := g.kb b2 b3
  have hwl := (KS_w (sc := sc) k1).lt
  have hl : (L ++ wL (kx (xC n f) i)).length ≤ L.length + 5 := by
    rw [List.length_append]
    omega
  have e3 := c_X6_isAnnulling (sc := sc) g1.2.1 hi
  rw [insT_eq]
  by_cases ha : xC n f i 4 = nI 1
  · obtain ⟨h2, e4, q2, N2, b4, b5, b6⟩ := b_append (sc := sc) (x := nI 42) b1 ⟨42, by omega, rfl⟩ (by omega)
    have hl2 : ((L ++ wL (kx (xC n f) i)) ++ [nI 42]).length = (L ++ wL (kx (xC n f) i)).length + 1 := by
      rw [List.length_append]
      rfl
    obtain ⟨h', e5, e6⟩ := l_wops (sc := sc) (p := p) hw hi 3 0 rfl h2 q2 N2 _ (g1.kb b5 b6) b4 (by omega)
    refine ⟨h', ?_, ?_⟩
    · rw [decide_eq_true ha] at e3
      simp only [c0_X8_writeInstruction, e_X8_writeInstruction_0, e_X8_writeInstruction_5, e_X8_writeInstruction_10, e_X8_writeInstruction_14, e_X8_writeInstruction_17, e_X8_writeInstruction_23, e_X8_writeInstruction_26, e_X8_writeInstruction_30, e_X8_writeInstruction_35, e_X8_writeInstruction_36, bI_t g.2.1.ok, e1, g.1.f0, kf_word k1, bI_t (SB.ok b), e2, bI_t g1.2.1.ok, e3, g1.1.f0, bI_t (SB.ok b1), e4, bO_some, bF_I, bF_D, bF_C, bC_v, pk_mul, nI_add, Option.toList, List.cons_append, List.nil_append, zI_0, if_true, if_false, eq_self, not_true_eq_false, not_false_eq_true, reduceCtorEq]
      exact e5
    · rw [if_pos ha]
      have h9 := BR.seq ⟨b2, b3⟩ (BR.seq ⟨b5, b6⟩ e6)
      rw [List.append_assoc, List.append_assoc] at h9
      rw [List.append_assoc]
      exact h9
  · obtain ⟨h', e5, e6⟩ := l_wops (sc := sc) (p := p) hw hi 3 0 rfl h1 q1 N1 _ g1 b1 (by omega)
    refine ⟨h', ?_, ?_⟩
    · rw [decide_eq_false ha] at e3
      simp only [c0_X8_writeInstruction, e_X8_writeInstruction_0, e_X8_writeInstruction_5, e_X8_writeInstruction_10, e_X8_writeInstruction_14, e_X8_writeInstruction_17, e_X8_writeInstruction_23, e_X8_writeInstruction_36, bI_t g.2.1.ok, e1, g.1.f0, kf_word k1, bI_t (SB.ok b), e2, bI_t g1.2.1.ok, e3, bO_some, bF_I, bF_D, bF_C, bC_v, pk_mul, nI_add, Option.toList, List.cons_append, List.nil_append, zI_0, if_true, if_false, eq_self, not_true_eq_false, not_false_eq_true, reduceCtorEq]
      exact e5
    · rw [if_neg ha, List.append_nil]
      have h9 := BR.seq ⟨b2, b3⟩ e6
      rw [List.append_assoc] at h9
      exact h9
theorem insT_len {X : Nat → Nat → Int32} (hw : WF n X) (hi : i < n) : (insT X i).length ≤ 18 := by
  have h1 := opT_len hw hi (show 0 < 3 by omega)
  have h2 := opT_len hw hi (show 1 < 3 by omega)
  have h3 := opT_len hw hi (show 2 < 3 by omega)
  have h4 := (KS_w (sc := (0, fun _ => 0)) (hw.1 i hi).2).lt
  have h5 : (if X i 4 = nI 1 then [nI 42] else []).length ≤ 1 := by
    split
    · exact Nat.le_refl 1
    · exact Nat.zero_le 1
  unfold insT
  simp only [List.length_append]
  omega
theorem prT_len {X : Nat → Nat → Int32} (hw : WF n X) : ∀ j, j ≤ n → (prT X j).length ≤ 19 * j := by
  intro j
  induction j with
  | zero => exact fun _ => Nat.zero_le _
  | succ j ih =>
    intro hj
    have h1 := ih (by omega)
    have h2 := insT_len hw (show j < n by omega)
    have h5 : (if 0 < j then [if slX X j = true then nI 124 else nI 59] else []).length ≤ 1 := by
      split
      · exact Nat.le_refl 1
      · exact Nat.zero_le 1
    unfold prT
    simp only [List.length_append]
    omega
theorem l_wprog (hw : WF n (xC n f)) : ∀ d j, j + d = n → ∀ h q N, EV h p sb r q Nr n f → SBL h sb q N (prT (xC n f) j) → ∃ h', Run sc n_X8_writeProgram 10 [aD p, aD r, aI (nI j)] none [] h = some (.inl (some (aI (nI (prT (xC n f) n).length))), h') ∧ BR sb h q N h' (prT (xC n f) n) := by
  intro d
  induction d with
  | zero =>
    intro j hj h q N g b
    have hn := g.2.1.n60
    have hjn : j = n := by omega
    subst hjn
    refine ⟨h, ?_, q, N, b, FB.of Fr.rfl, Or.inl rfl⟩
    simp only [e_X8_writeProgram_10, e_X8_writeProgram_15, e_X8_writeProgram_57, e_X8_writeProgram_61, e_X8_writeProgram_64, g.2.1.f1, nI_le (Nat.le_refl j) (show j < 2 ^ 31 by omega), if_true, g.1.f0, bI_t (SB.ok b), c_J4_length b, bO_some, bF_I, bF_D, bF_C, bC_v, pk_mul, nI_add, Option.toList, List.cons_append, List.nil_append]
  | succ d ih =>
    intro j hj h q N g b
    have hn := g.2.1.n60
    have hjn : j < n := by omega
    have hl := prT_len hw j (by omega)
    have hpr : prT (xC n f) (j + 1) = (prT (xC n f) j ++ (if 0 < j then [if slX (xC n f) j = true then nI 124 else nI 59] else [])) ++ insT (xC n f) j := rfl
    have h1 : ¬ nI n ≤ nI j := nI_ge hjn (by omega)
    have T45 : ∀ {h q N L}, EV h p sb r q Nr n f → SBL h sb q N L → L.length ≤ 19 * j + 1 → prT (xC n f) (j + 1) = L ++ insT (xC n f) j → ∃ h', Run sc n_X8_writeProgram 45 [aD p, aD r, aI (nI j)] none [] h = some (.inl (some (aI (nI (prT (xC n f) n).length))), h') ∧ BR sb h q N h' (prT (xC n f) n) := by
      intro h q N L g b hL hp
      obtain ⟨h1', e1, q1, N1, b1, b2, b3⟩ := c_X8_writeInstruction (sc := sc) g b hw hjn (by omega)
      rw [← hp] at b1
      obtain ⟨h', e2, e3⟩ := ih (j + 1) (by omega) h1' q1 N1 (g.kb b2 b3) b1
      refine ⟨h', ?_, BR.seq ⟨b2, b3⟩ e3⟩
      simp only [e_X8_writeProgram_45, e_X8_writeProgram_51, bI_t g.1.ok, e1, bO_some, bF_I, bF_D, bF_C, bC_v, pk_mul, nI_add, Option.toList, List.cons_append, List.nil_append]
      exact e2
    rw [e_X8_writeProgram_10, g.2.1.f1, bF_I, e_X8_writeProgram_15, if_neg h1]
    by_cases h0 : 0 < j
    · rw [if_pos h0] at hpr
      have h3 : ¬ nI j ≤ 0 := nI_nle h0 (by omega)
      have e1 := c_X6_isSlot (sc := sc) g.2.1 hw.1 (show j ≤ n by omega)
      have has : AS (if slX (xC n f) j = true then nI 124 else nI 59) := by
        split
        · exact ⟨124, by omega, rfl⟩
        · exact ⟨59, by omega, rfl⟩
      obtain ⟨h1', e2, q1, N1, b1, b2, b3⟩ := b_append (sc := sc) b has (by omega)
      obtain ⟨h', e3, e4⟩ := T45 (g.kb b2 b3) b1 (by rw [List.length_append]; show _ + 1 ≤ _; omega) hpr
      refine ⟨h', ?_, BR.seq ⟨b2, b3⟩ e4⟩
      rw [e_X8_writeProgram_18, if_neg h3]
      by_cases hs : slX (xC n f) j = true
      · rw [if_pos hs] at e2
        rw [hs] at e1
        simp only [e_X8_writeProgram_22, e_X8_writeProgram_26, e_X8_writeProgram_31, e_X8_writeProgram_34, e_X8_writeProgram_41, e_X8_writeProgram_44, g.1.f0, bI_t g.2.1.ok, e1, bI_t (SB.ok b), e2, bO_some, bF_I, bF_D, bF_C, bC_v, pk_mul, nI_add, Option.toList, List.cons_append, List.nil_append, zI_0, if_true, if_false, eq_self, not_true_eq_false, not_false_eq_true, reduceCtorEq]
        exact e3
      · rw [if_neg hs] at e2
        rw [Bool.not_eq_true] at hs
        rw [hs] at e1
        simp only [e_X8_writeProgram_22, e_X8_writeProgram_26, e_X8_writeProgram_31, e_X8_writeProgram_39, e_X8_writeProgram_41, e_X8_writeProgram_44, g.1.f0, bI_t g.2.1.ok, e1, bI_t (SB.ok b), e2, bO_some, bF_I, bF_D, bF_C, bC_v, pk_mul, nI_add, Option.toList, List.cons_append, List.nil_append, zI_0, if_true, if_false, eq_self, not_true_eq_false, not_false_eq_true, reduceCtorEq]
        exact e3
    · rw [if_neg h0, List.append_nil] at hpr
      have h3 : nI j ≤ 0 := by
        rw [show j = 0 by omega]
        decide
      rw [e_X8_writeProgram_18, if_pos h3]
      exact T45 g b (by omega) hpr
theorem c_X8_writeProgram (g : EV h p sb r q Nr n f) (b : SB h sb q N m tx) (hw : WF n (xC n f)) : ∃ h', Call sc n_X8_writeProgram [aD p, aD r] h = some (.inl (some (aI (nI (prT (xC n f) n).length))), h') ∧ BR sb h q N h' (prT (xC n f) n) := by
  obtain ⟨h1, q1, N1, e1, b1, b2, b3⟩ := c_setLength0 (sc := sc) b
  have b1' : SBL h1 sb q1 N1 (prT (xC n f) 0) := b1.txt (fun i hi => by omega)
  obtain ⟨h', e2, e3⟩ := l_wprog (sc := sc) hw n 0 (by omega) h1 q1 N1 (g.kb b2 b3) b1'
  refine ⟨h', ?_, BR.seq ⟨b2, b3⟩ e3⟩
  simp only [c0_X8_writeProgram, e_X8_writeProgram_0, e_X8_writeProgram_4, e_X8_writeProgram_8, g.1.f0, bI_t b.ok, e1, bO_some, bF_I, bF_D, bF_C, bC_v, pk_mul, nI_add, Option.toList, List.cons_append, List.nil_append]
  exact e2
end
