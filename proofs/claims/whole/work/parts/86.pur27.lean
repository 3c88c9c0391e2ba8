/-! PURE 27: the writer: instructions, the program -/
def osT (X : Nat → Nat → Int32) (i : Nat) : Nat → Nat → List Int32
  | 0, _ => []
  | d + 1, o => opT X i o ++ osT X i d (o + 1)
theorem insT_eq (X : Nat → Nat → Int32) (i : Nat) : insT X i = (wL (kx X i) ++ (if X i 4 = nI 1 then [nI 42] else [])) ++ osT X i 3 0 := by
  unfold insT
  show _ = _ ++ (opT X i 0 ++ (opT X i 1 ++ (opT X i 2 ++ [])))
  rw [List.append_nil, List.append_assoc, List.append_assoc]
section
variable {sc : SC} {h h' h'' : AH} {p q r N m k i j n a Nr : Nat} {tx f : Nat → Int32} {S : Nat → Prop} {x : Int32} {L L' w : List Int32} {v3 v4 : AV}
/-- the writer p, its row q and the program r that it writes lie apart -/
def EV (h : AH) (p q r Nr n : Nat) (f : Nat → Int32) : Prop := PG h r Nr n f ∧ ¬ r = p ∧ ¬ r = q ∧ ¬ r + 1 = p ∧ ¬ r + 1 = q
theorem EV.kb (g : EV h p q r Nr n f) (hf : Fr (BX p q) h h') : EV h' p q r Nr n f := by
  obtain ⟨g1, g2, g3, g4, g5⟩ := g
  refine ⟨g1.keep hf ?_ ?_, g2, g3, g4, g5⟩
  · rintro (z | z)
    · exact g2 z
    · exact g3 z
  · rintro (z | z)
    · exact g4 z
    · exact g5 z
theorem WF.c3 {X : Nat → Nat → Int32} (hw : WF n X) (hi : i < n) {o : Nat} (ho : o < 3) : -100 < (X i (1 + o)).toInt ∧ (X i (1 + o)).toInt < 100 := by
  obtain ⟨v1, v2, v3, v4, v5, v6, v7⟩ := hw
  have h3 : o = 0 ∨ o = 1 ∨ o = 2 := by omega
  obtain ⟨a, b, h4, h5, h6, h7⟩ := v6 i hi
  rcases h3 with rfl | rfl | rfl
  · show -100 < (X i 1).toInt ∧ (X i 1).toInt < 100
    rw [h4, nI_toInt (by omega)]
    omega
  · show -100 < (X i 2).toInt ∧ (X i 2).toInt < 100
    rw [h6, nI_toInt (by omega)]
    omega
  · exact (v7 i hi).2
theorem opT_len {X : Nat → Nat → Int32} (hw : WF n X) (hi : i < n) {o : Nat} (ho : o < 3) : (opT X i o).length ≤ 4 := by
  unfold opT
  split
  · exact Nat.zero_le _
  · have h1 := hw.c3 hi ho
    have := nmT_len h1.1 h1.2
    rw [List.length_cons]
    omega
theorem l_word (hk : k < 12) : ∀ d j, j + d = (wL k).length → ∀ h L, SBL h p q L → L.length + d ≤ 840 → ∃ h', Run sc n_X8_writeInstruction 9 [aD p, aD r, aI x, aC (k + 1), aI (nI j)] none [] h = Run sc n_X8_writeInstruction 40 [aD p, aD r, aI x, aC (k + 1), aI (nI (wL k).length)] none [] h' ∧ BR p q h h' (L ++ (wL k).drop j) := by
  have ks := KS_w (sc := sc) hk
  have hl5 := ks.lt
  intro d
  induction d with
  | zero =>
    intro j hj h L b hm
    have hj2 : j = (wL k).length := by omega
    subst hj2
    refine ⟨h, ?_, ?_, Fr.rfl⟩
    · rw [e_X8_writeInstruction_9, kf_word hk, bF_C, e_X8_writeInstruction_15, bI_t ks.ok, c_J0_length ks, bC_v]
      show Run sc n_X8_writeInstruction 18 [aD p, aD r, aI x, aC (k + 1), aI (nI (wL k).length)] none [aI (nI (wL k).length), aI (nI (wL k).length)] h = _
      rw [e_X8_writeInstruction_18, if_pos (nI_le (Nat.le_refl (wL k).length) (show (wL k).length < 2 ^ 31 by omega))]
    · rw [List.drop_length, List.append_nil]
      exact b
  | succ d ih =>
    intro j hj h L b hm
    have hjl : j < (wL k).length := by omega
    have h1 : ¬ nI (wL k).length ≤ nI j := nI_ge hjl (by omega)
    have has := AS_wd hk hjl
    have hdr : (wL k).drop j = (wL k).getD j 0 :: (wL k).drop (j + 1) := by
      rw [List.drop_eq_getElem_cons hjl, List.getD_eq_getElem?_getD, List.getElem?_eq_getElem hjl]
      rfl
    obtain ⟨h1', e2, b1, b2⟩ := c_append (sc := sc) (x := (wL k).getD j 0) b has (by omega)
    obtain ⟨h', e3, e4⟩ := ih (j + 1) (by omega) h1' _ b1 (by rw [List.length_append]; show L.length + 1 + d ≤ 840; omega)
    refine ⟨h', ?_, ?_⟩
    · rw [e_X8_writeInstruction_9, kf_word hk, bF_C, e_X8_writeInstruction_15, bI_t ks.ok, c_J0_length ks, bC_v]
      show Run sc n_X8_writeInstruction 18 [aD p, aD r, aI x, aC (k + 1), aI (nI j)] none [aI (nI (wL k).length), aI (nI j)] h = _
      rw [e_X8_writeInstruction_18, if_neg h1]
      simp only [e_X8_writeInstruction_21, e_X8_writeInstruction_26, e_X8_writeInstruction_31, e_X8_writeInstruction_34, kf_word hk, bI_t ks.ok, c_J0_charAt ks hjl, bI_t (SBL.ok b), e2, bO_some, bF_I, bF_D, bF_C, bC_v, pk_mul, nI_add, Option.toList, List.cons_append, List.nil_append]
      exact e3
    · have h9 := BR.seq b2 e4
      rw [List.append_assoc] at h9
      rw [hdr]
      exact h9
theorem l_wops (hw : WF n (xC n f)) (hi : i < n) : ∀ d o, o + d = 3 → ∀ h L, EV h p q r Nr n f → SBL h p q L → L.length + (osT (xC n f) i d o).length ≤ 840 → ∃ h', Run sc n_X8_writeInstruction 57 [aD p, aD r, aI (nI i), aC (kx (xC n f) i + 1), aI (nI o)] none [] h = some (.inl none, h') ∧ BR p q h h' (L ++ osT (xC n f) i d o) := by
  intro d
  induction d with
  | zero =>
    intro o ho h L g b hm
    refine ⟨h, ?_, ?_, Fr.rfl⟩
    · rw [e_X8_writeInstruction_57, if_pos (nI_le (by omega) (by omega)), e_X8_writeInstruction_99]
    · show SBL h p q (L ++ [])
      rw [List.append_nil]
      exact b
  | succ d ih =>
    intro o ho h L g b hm
    have k1 := (hw.1 i hi).2
    have h1 : ¬ nI 3 ≤ nI o := nI_ge (by omega) (by omega)
    have e1 := c_X4_sign (sc := sc) (h := h) k1 (show o < 3 by omega)
    rw [e_X8_writeInstruction_57, if_neg h1]
    simp only [e_X8_writeInstruction_63, e_X8_writeInstruction_69, bI_t (kok k1), e1, bO_some, bF_I, bF_D, bF_C, bC_v, pk_mul, nI_add, Option.toList, List.cons_append, List.nil_append]
    unfold osT opT at hm ⊢
    by_cases hs : (fL (kx (xC n f) i)).getD o 0 = nI 45
    · rw [if_pos hs, List.nil_append] at hm
      rw [if_pos hs, if_pos hs, e_X8_writeInstruction_93, nI_add, List.nil_append]
      exact ih (o + 1) (by omega) h L g b hm
    · rw [if_neg hs, List.length_append, List.length_cons] at hm
      rw [if_neg hs, if_neg hs]
      obtain ⟨h1', e2, b1, b2⟩ := c_append (sc := sc) (x := nI 32) b ⟨32, by omega, rfl⟩ (by omega)
      have g1 := g.kb b2
      have c3 := hw.c3 hi (show o < 3 by omega)
      have hl : (L ++ [nI 32]).length = L.length + 1 := List.length_append ..
      have e3 := c_X6_part (sc := sc) g1.1 hi (show 1 + o < 5 by omega)
      obtain ⟨h2', e4, b4, b5⟩ := c_X8_writeNumber (sc := sc) b1 c3.1 c3.2 (by omega)
      have hl2 : ((L ++ [nI 32]) ++ nmT (xC n f i (1 + o))).length = L.length + 1 + (nmT (xC n f i (1 + o))).length := by rw [List.length_append, hl]
      obtain ⟨h', e5, e6⟩ := ih (o + 1) (by omega) h2' ((L ++ [nI 32]) ++ nmT (xC n f i (1 + o))) (g1.kb b5) b4 (by omega)
      refine ⟨h', ?_, ?_⟩
      · simp only [e_X8_writeInstruction_74, e_X8_writeInstruction_80, e_X8_writeInstruction_90, e_X8_writeInstruction_93, bI_t (SBL.ok b), e2, bI_t g1.1.ok, e3, bI_t (SBL.ok b1), e4, bO_some, bF_I, bF_D, bF_C, bC_v, pk_mul, nI_add, Option.toList, List.cons_append, List.nil_append]
        exact e5
      · have h9 := BR.seq b2 (BR.seq b5 e6)
        rw [List.append_assoc, List.append_assoc] at h9
        exact h9
theorem c_X8_writeInstruction (g : EV h p q r Nr n f) (b : SBL h p q L) (hw : WF n (xC n f)) (hi : i < n) (hm : L.length + (insT (xC n f) i).length ≤ 840) : ∃ h', Call sc n_X8_writeInstruction [aD p, aD r, aI (nI i)] h = some (.inl none, h') ∧ BR p q h h' (L ++ insT (xC n f) i) := by
  have k1 := (hw.1 i hi).2
  have e1 := c_X6_kind (sc := sc) g.1 hw.1 hi
  rw [insT_eq] at hm ⊢
  rw [List.length_append, List.length_append] at hm
  obtain ⟨h1, e2, b1, b2⟩ := l_word (sc := sc) (p := p) (q := q) (r := r) (x := nI i) k1 (wL (kx (xC n f) i)).length 0 (by omega) h L b (by omega)
  rw [List.drop_zero] at b1
  have g1 := g.kb b2
  have hl : (L ++ wL (kx (xC n f) i)).length = L.length + (wL (kx (xC n f) i)).length := List.length_append ..
  have e3 := c_X6_isAnnulling (sc := sc) g1.1 hi
  have hs : Call sc n_X8_writeInstruction [aD p, aD r, aI (nI i)] h = Run sc n_X8_writeInstruction 40 [aD p, aD r, aI (nI i), aC (kx (xC n f) i + 1), aI (nI (wL (kx (xC n f) i)).length)] none [] h1 := by
    simp only [c0_X8_writeInstruction, e_X8_writeInstruction_0, e_X8_writeInstruction_5, bI_t g.1.ok, e1, bO_some, bF_I, bF_D, bF_C, bC_v, pk_mul, nI_add, Option.toList, List.cons_append, List.nil_append]
    exact e2
  by_cases ha : xC n f i 4 = nI 1
  · rw [if_pos ha] at hm ⊢
    have hm2 : L.length + ((wL (kx (xC n f) i)).length + 1 + (osT (xC n f) i 3 0).length) ≤ 840 := hm
    obtain ⟨h2, e4, b4, b5⟩ := c_append (sc := sc) (x := nI 42) b1 ⟨42, by omega, rfl⟩ (by omega)
    have hl2 : ((L ++ wL (kx (xC n f) i)) ++ [nI 42]).length = (L ++ wL (kx (xC n f) i)).length + 1 := List.length_append ..
    obtain ⟨h', e5, e6⟩ := l_wops (sc := sc) hw hi 3 0 rfl h2 _ (g1.kb b5) b4 (by omega)
    refine ⟨h', ?_, ?_⟩
    · rw [decide_eq_true ha] at e3
      rw [hs]
      simp only [e_X8_writeInstruction_40, e_X8_writeInstruction_45, e_X8_writeInstruction_48, e_X8_writeInstruction_54, bI_t g1.1.ok, e3, bI_t (SBL.ok b1), e4, bO_some, bF_I, bF_D, bF_C, bC_v, pk_mul, nI_add, Option.toList, List.cons_append, List.nil_append, zI_0, if_true, if_false, eq_self, not_true_eq_false, not_false_eq_true, reduceCtorEq]
      exact e5
    · have h9 := BR.seq b2 (BR.seq b5 e6)
      rw [List.append_assoc, List.append_assoc] at h9
      rw [List.append_assoc]
      exact h9
  · rw [if_neg ha] at hm ⊢
    have hm2 : L.length + ((wL (kx (xC n f) i)).length + 0 + (osT (xC n f) i 3 0).length) ≤ 840 := hm
    obtain ⟨h', e5, e6⟩ := l_wops (sc := sc) hw hi 3 0 rfl h1 _ g1 b1 (by omega)
    refine ⟨h', ?_, ?_⟩
    · rw [decide_eq_false ha] at e3
      rw [hs]
      simp only [e_X8_writeInstruction_40, e_X8_writeInstruction_45, e_X8_writeInstruction_54, bI_t g1.1.ok, e3, bO_some, bF_I, bF_D, bF_C, bC_v, pk_mul, nI_add, Option.toList, List.cons_append, List.nil_append, zI_0, if_true, if_false, eq_self, not_true_eq_false, not_false_eq_true, reduceCtorEq]
      exact e5
    · rw [List.append_nil]
      have h9 := BR.seq b2 e6
      rw [List.append_assoc] at h9
      exact h9
theorem insT_len {X : Nat → Nat → Int32} (hn : n ≤ 60) (hw : WF n X) (hi : i < n) : (insT X i).length ≤ 13 := by
  have h3 := opT_len hw hi (show 2 < 3 by omega)
  have h4 := (KS_w (sc := (0, fun _ => 0)) (hw.1 i hi).2).lt
  obtain ⟨v1, v2, v3, v4, v5, v6, v7⟩ := hw
  obtain ⟨a, b, h5, h6, h7, h8⟩ := v6 i hi
  have o0 : (opT X i 0).length ≤ 2 := by
    unfold opT
    split
    · exact Nat.zero_le _
    · show (nmT (X i 1)).length + 1 ≤ 2
      rw [h5, nmT_1 h6]
      exact Nat.le_refl 2
  have o1 : (opT X i 1).length ≤ 2 := by
    unfold opT
    split
    · exact Nat.zero_le _
    · show (nmT (X i 2)).length + 1 ≤ 2
      rw [h7, nmT_1 h8]
      exact Nat.le_refl 2
  unfold insT
  simp only [List.length_append]
  by_cases ha : X i 4 = nI 1
  · rw [if_pos ha]
    have hco : kCo (kx X i) = true := by
      rcases v4 i hi with h9 | h9
      · rw [ha] at h9
        exact absurd h9 (by decide)
      · exact h9.2
    have hbr : kBr (kx X i) = true := by
      unfold kCo at hco
      unfold kBr
      simp only [Bool.and_eq_true, Nat.ble_eq] at hco ⊢
      omega
    obtain ⟨t, h10, h11⟩ := v2 i hi hbr
    have o2 : (opT X i 2).length ≤ 3 := by
      unfold opT
      split
      · exact Nat.zero_le _
      · show (nmT (X i 3)).length + 1 ≤ 3
        rw [h10]
        have := nmT_2 (c := t) (by omega)
        omega
    show (wL (kx X i)).length + 1 + (opT X i 0).length + (opT X i 1).length + (opT X i 2).length ≤ 13
    omega
  · rw [if_neg ha]
    show (wL (kx X i)).length + 0 + (opT X i 0).length + (opT X i 1).length + (opT X i 2).length ≤ 13
    omega
theorem prT_len {X : Nat → Nat → Int32} (hn : n ≤ 60) (hw : WF n X) : ∀ j, j ≤ n → (prT X j).length ≤ 14 * j := by
  intro j
  induction j with
  | zero => exact fun _ => Nat.zero_le _
  | succ j ih =>
    intro hj
    have h1 := ih (by omega)
    have h2 := insT_len hn hw (show j < n by omega)
    have h5 : (if 0 < j then [if slX X j = true then nI 124 else nI 59] else []).length ≤ 1 := by
      split
      · exact Nat.le_refl 1
      · exact Nat.zero_le 1
    unfold prT
    simp only [List.length_append]
    omega
theorem l_wprog (hw : WF n (xC n f)) (hn : n ≤ 60) : ∀ d j, j + d = n → ∀ h, EV h p q r Nr n f → SBL h p q (prT (xC n f) j) → ∃ h', Run sc n_X8_writeProgram 7 [aD p, aD r, aI (nI j)] none [] h = some (.inl (some (aI (nI (prT (xC n f) n).length))), h') ∧ BR p q h h' (prT (xC n f) n) := by
  intro d
  induction d with
  | zero =>
    intro j hj h g b
    have hjn : j = n := by omega
    subst hjn
    refine ⟨h, ?_, b, Fr.rfl⟩
    rw [e_X8_writeProgram_7, g.1.f1, bF_I, e_X8_writeProgram_12, if_pos (nI_le (Nat.le_refl j) (show j < 2 ^ 31 by omega)), e_X8_writeProgram_50, b.f1, bF_I, e_X8_writeProgram_54]
  | succ d ih =>
    intro j hj h g b
    have hjn : j < n := by omega
    have hl := prT_len hn hw j (by omega)
    have hl1 := prT_len hn hw (j + 1) (by omega)
    have hpr : prT (xC n f) (j + 1) = (prT (xC n f) j ++ (if 0 < j then [if slX (xC n f) j = true then nI 124 else nI 59] else [])) ++ insT (xC n f) j := rfl
    have h1 : ¬ nI n ≤ nI j := nI_ge hjn (by omega)
    have T38 : ∀ {h L}, EV h p q r Nr n f → SBL h p q L → prT (xC n f) (j + 1) = L ++ insT (xC n f) j → ∃ h', Run sc n_X8_writeProgram 38 [aD p, aD r, aI (nI j)] none [] h = some (.inl (some (aI (nI (prT (xC n f) n).length))), h') ∧ BR p q h h' (prT (xC n f) n) := by
      intro h L g b hp
      obtain ⟨h1', e1, b1, b2⟩ := c_X8_writeInstruction (sc := sc) g b hw hjn (by rw [hp, List.length_append] at hl1; omega)
      rw [← hp] at b1
      obtain ⟨h', e2, e3⟩ := ih (j + 1) (by omega) h1' (g.kb b2) b1
      refine ⟨h', ?_, BR.seq b2 e3⟩
      simp only [e_X8_writeProgram_38, e_X8_writeProgram_44, bI_t b.ok, e1, bO_some, bF_I, bF_D, bF_C, bC_v, pk_mul, nI_add, Option.toList, List.cons_append, List.nil_append]
      exact e2
    rw [e_X8_writeProgram_7, g.1.f1, bF_I, e_X8_writeProgram_12, if_neg h1]
    by_cases h0 : 0 < j
    · rw [if_pos h0] at hpr
      have h3 : ¬ nI j ≤ 0 := nI_nle h0 (by omega)
      have e1 := c_X6_isSlot (sc := sc) g.1 hw.1 (show j ≤ n by omega)
      have has : AS (if slX (xC n f) j = true then nI 124 else nI 59) := by
        split
        · exact ⟨124, by omega, rfl⟩
        · exact ⟨59, by omega, rfl⟩
      obtain ⟨h1', e2, b1, b2⟩ := c_append (sc := sc) b has (by omega)
      obtain ⟨h', e3, e4⟩ := T38 (g.kb b2) b1 hpr
      refine ⟨h', ?_, BR.seq b2 e4⟩
      rw [e_X8_writeProgram_15, if_neg h3]
      by_cases hs : slX (xC n f) j = true
      · rw [if_pos hs] at e2
        rw [hs] at e1
        simp only [e_X8_writeProgram_19, e_X8_writeProgram_25, e_X8_writeProgram_28, e_X8_writeProgram_35, bI_t g.1.ok, e1, bI_t b.ok, e2, bO_some, bF_I, bF_D, bF_C, bC_v, pk_mul, nI_add, Option.toList, List.cons_append, List.nil_append, zI_0, if_true, if_false, eq_self, not_true_eq_false, not_false_eq_true, reduceCtorEq]
        exact e3
      · rw [if_neg hs] at e2
        rw [Bool.not_eq_true] at hs
        rw [hs] at e1
        simp only [e_X8_writeProgram_19, e_X8_writeProgram_25, e_X8_writeProgram_33, e_X8_writeProgram_35, bI_t g.1.ok, e1, bI_t b.ok, e2, bO_some, bF_I, bF_D, bF_C, bC_v, pk_mul, nI_add, Option.toList, List.cons_append, List.nil_append, zI_0, if_true, if_false, eq_self, not_true_eq_false, not_false_eq_true, reduceCtorEq]
        exact e3
    · rw [if_neg h0, List.append_nil] at hpr
      have h3 : nI j ≤ 0 := by
        rw [show j = 0 by omega]
        decide
      rw [e_X8_writeProgram_15, if_pos h3]
      exact T38 g b hpr
theorem c_X8_writeProgram (g : EV h p q r Nr n f) (b : SBL h p q L) (hw : WF n (xC n f)) : ∃ h', Call sc n_X8_writeProgram [aD p, aD r] h = some (.inl (some (aI (nI (prT (xC n f) n).length))), h') ∧ BR p q h h' (prT (xC n f) n) := by
  obtain ⟨t, g1, g2, g3, g4, g5⟩ := b
  have e1 : putF h p 10 1 0 (aI (nI 0)) = some (hset h p (oO 10 [aD q, aI (nI 0)])) := by
    rw [putF_D g1 (show 1 < 2 by decide) rfl]
    rfl
  have fr := (fr_set (o := oO 10 [aD q, aI (nI 0)]) g1 rfl).mono (T := BX p q) (fun _ z => Or.inl z)
  have b1 : SBL (hset h p (oO 10 [aD q, aI (nI 0)])) p q (prT (xC n f) 0) := ⟨t, hget_set g1, (hget_ne (fun z => g3 z.symm)).trans g2, g3, Nat.zero_le _, fun i hi => absurd hi (Nat.not_lt_zero i)⟩
  obtain ⟨h', e2, e3⟩ := l_wprog (sc := sc) hw g.1.n60 n 0 (by omega) _ (g.kb fr) b1
  refine ⟨h', ?_, BR.seq fr e3⟩
  simp only [c0_X8_writeProgram, e_X8_writeProgram_0, e_X8_writeProgram_5, e1, bO_some, bF_I, bF_D, bF_C, bC_v, pk_mul, nI_add, Option.toList, List.cons_append, List.nil_append]
  exact e2
end
