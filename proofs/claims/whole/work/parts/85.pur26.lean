/-! PURE 26: the writer -/
def dgT (a : Nat) : List Int32 := if a < 10 then [nI (48 + a % 10)] else [nI (48 + a / 10), nI (48 + a % 10)]
def nmT (x : Int32) : List Int32 := if x < 0 then nI 45 :: dgT (-x).toNatClampNeg else dgT x.toNatClampNeg
def opT (X : Nat → Nat → Int32) (i o : Nat) : List Int32 := if (fL (kx X i)).getD o 0 = nI 45 then [] else nI 32 :: nmT (X i (1 + o))
def insT (X : Nat → Nat → Int32) (i : Nat) : List Int32 := ((wL (kx X i) ++ (if X i 4 = nI 1 then [nI 42] else [])) ++ opT X i 0) ++ opT X i 1 ++ opT X i 2
def prT (X : Nat → Nat → Int32) : Nat → List Int32
  | 0 => []
  | j + 1 => (prT X j ++ (if 0 < j then [if slX X j = true then nI 124 else nI 59] else [])) ++ insT X j
def BX (p q : Nat) : Nat → Prop := fun x => x = p ∨ x = q
/-- the writer p with its row q holds the letters L -/
def SBL (h : AH) (p q : Nat) (L : List Int32) : Prop := ∃ b, hget h p = some (oO 10 [aD q, aI (nI L.length)]) ∧ hget h q = some (oI 1 840 b) ∧ ¬ p = q ∧ L.length ≤ 840 ∧ ∀ i, i < L.length → b i = L.getD i 0 ∧ AS (L.getD i 0)
/-- the writer goes to the letters L' -/
def BR (p q : Nat) (h h' : AH) (L' : List Int32) : Prop := SBL h' p q L' ∧ Fr (BX p q) h h'
section
variable {sc : SC} {h h' h'' : AH} {p q r N m k i j n a Nr : Nat} {tx f : Nat → Int32} {S : Nat → Prop} {x : Int32} {L L' w : List Int32} {v3 v4 : AV}
theorem BR.seq (b : Fr (BX p q) h h') (c : BR p q h' h'' L') : BR p q h h'' L' := ⟨c.1, b.trans c.2⟩
theorem SBL.f0 (g : SBL h p q L) : getF sc h (aD p) 10 0 = some (aD q) := by
  obtain ⟨b, g1, _⟩ := g
  exact getF_D g1 rfl
theorem SBL.f1 (g : SBL h p q L) : getF sc h (aD p) 10 1 = some (aI (nI L.length)) := by
  obtain ⟨b, g1, _⟩ := g
  exact getF_D g1 rfl
theorem SBL.ok (g : SBL h p q L) : rOK sc h (aD p) 10 = true := by
  obtain ⟨b, g1, _⟩ := g
  exact rOK_D g1
theorem SBL.ld (g : SBL h p q L) (hi : i < L.length) : ldI sc h (fun t => t == 1) (aD q) (nI i) = some (L.getD i 0) := by
  obtain ⟨b, g1, g2, g3, g4, g5⟩ := g
  rw [← (g5 i hi).1]
  exact ldI_D g2 rfl (by omega) (by omega)
theorem ap1 (L : List Int32) (x : Int32) : ∀ i, i < (L ++ [x]).length → (L ++ [x]).getD i 0 = upd (fun i => L.getD i 0) L.length x i := by
  intro i hi
  rw [List.length_append] at hi
  have hi2 : i < L.length + 1 := hi
  rw [upd_eq]
  by_cases h1 : i = L.length
  · subst h1
    rw [if_pos rfl, List.getD_eq_getElem?_getD, List.getElem?_append_right (Nat.le_refl _), Nat.sub_self]
    rfl
  · rw [if_neg h1, List.getD_eq_getElem?_getD, List.getElem?_append_left (by omega), List.getD_eq_getElem?_getD]
theorem c_append (g : SBL h p q L) (hx : AS x) (hm : L.length < 840) : ∃ h', Call sc n_X8_append [aD p, aI x] h = some (.inl none, h') ∧ BR p q h h' (L ++ [x]) := by
  have f0 := g.f0 (sc := sc)
  have f1 := g.f1 (sc := sc)
  obtain ⟨b, g1, g2, g3, g4, g5⟩ := g
  obtain ⟨c, hc, rfl⟩ := hx
  have hl : lenA sc h (aD q) = some 840 := lenA_D g2
  have h9 : ¬ nI 840 ≤ nI L.length := nI_ge hm (by omega)
  have e1 : stI h (fun t => t == 1) q (nI L.length) (nI c) = some (hset h q (oI 1 840 (upd b L.length (nI c)))) := by
    rw [stI_D g2 rfl hm (by omega), asc_c c hc]
  have a1 : hget (hset h q (oI 1 840 (upd b L.length (nI c)))) p = some (oO 10 [aD q, aI (nI L.length)]) := (hget_ne g3).trans g1
  have f2 : getF sc (hset h q (oI 1 840 (upd b L.length (nI c)))) (aD p) 10 1 = some (aI (nI L.length)) := getF_D a1 rfl
  have e2 : putF (hset h q (oI 1 840 (upd b L.length (nI c)))) p 10 1 0 (aI (nI (L.length + 1))) = some (hset (hset h q (oI 1 840 (upd b L.length (nI c)))) p (oO 10 [aD q, aI (nI (L.length + 1))])) := by
    rw [putF_D a1 (show 1 < 2 by decide) rfl]
    rfl
  have fr1 := fr_set (o := oI 1 840 (upd b L.length (nI c))) g2 rfl
  have fr2 := fr_set (o := oO 10 [aD q, aI (nI (L.length + 1))]) a1 rfl
  have hlen : (L ++ [nI c]).length = L.length + 1 := List.length_append ..
  refine ⟨_, ?_, ⟨upd b L.length (nI c), ?_, ?_, g3, by rw [hlen]; omega, ?_⟩, (fr1.mono (T := BX p q) (fun _ z => Or.inr z)).trans (fr2.mono (fun _ z => Or.inl z))⟩
  · simp only [c0_X8_append, e_X8_append_0, e_X8_append_4, e_X8_append_8, e_X8_append_9, e_X8_append_12, e_X8_append_16, e_X8_append_20, e_X8_append_22, e_X8_append_27, e_X8_append_32, f0, f1, hl, h9, if_false, e1, f2, e2, bO_some, bF_I, bF_D, bF_C, bC_v, pk_mul, nI_add, Option.toList, List.cons_append, List.nil_append]
  · rw [hlen]
    exact hget_set a1
  · rw [hget_ne (fun z => g3 z.symm)]
    exact hget_set g2
  · intro i hi
    rw [ap1 L (nI c) i hi]
    rw [hlen] at hi
    rw [upd_eq, upd_eq]
    split
    · exact ⟨rfl, c, hc, rfl⟩
    · exact g5 i (by omega)
theorem dig_1 : ∀ a, a < 100 → ((nI 48 + nI a / nI 10).toUInt32 % 65536).toInt32 = nI (48 + a / 10) ∧ ((nI 48 + (nI a - nI a / nI 10 * nI 10)).toUInt32 % 65536).toInt32 = nI (48 + a % 10) ∧ (0 : Int32) - (-(nI a)) = nI a ∧ - -(nI a) = nI a ∧ (a = 0 ∨ ((-(nI a)) < 0 ∧ ¬ 0 ≤ -(nI a))) := by decide +kernel
theorem sgn_x (h1 : -100 < x.toInt) (h2 : x.toInt < 100) : (∃ a, a < 100 ∧ x = nI a) ∨ (∃ a, 0 < a ∧ a < 100 ∧ x = -(nI a)) := by
  by_cases h3 : 0 ≤ x.toInt
  · refine Or.inl ⟨x.toInt.toNat, by omega, ?_⟩
    apply Int32.toInt_inj.mp
    rw [nI_toInt (by omega)]
    omega
  · refine Or.inr ⟨(-x.toInt).toNat, by omega, by omega, ?_⟩
    apply Int32.toInt_inj.mp
    rw [sb_negT (by omega)]
    omega
theorem c_X8_writeNumber (b : SBL h p q L) (h1 : -100 < x.toInt) (h2 : x.toInt < 100) (hm : L.length + (nmT x).length ≤ 840) : ∃ h', Call sc n_X8_writeNumber [aD p, aI x] h = some (.inl none, h') ∧ BR p q h h' (L ++ nmT x) := by
  have T33 : ∀ {h : AH} {L : List Int32} (_ : SBL h p q L) (a : Nat) (_ : a < 100) (_ : L.length + 1 ≤ 840), ∃ h', Run sc n_X8_writeNumber 33 [aD p, aI x, aI (nI a)] none [] h = some (.inl none, h') ∧ BR p q h h' (L ++ [nI (48 + a % 10)]) := by
    intro h L b a ha hm
    have hd := dig_1 a ha
    obtain ⟨h', e1, e2⟩ := c_append (sc := sc) (x := nI (48 + a % 10)) b ⟨48 + a % 10, by omega, rfl⟩ (by omega)
    refine ⟨h', ?_, e2⟩
    simp only [e_X8_writeNumber_33, e_X8_writeNumber_40, e_X8_writeNumber_45, bI_t (show ¬ nI 10 = 0 from by decide), hd.2.1, bI_t (SBL.ok b), e1, bC_v, Option.toList, List.nil_append]
  have T15 : ∀ {h : AH} {L : List Int32} (_ : SBL h p q L) (a : Nat) (_ : a < 100) (_ : L.length + (dgT a).length ≤ 840), ∃ h', Run sc n_X8_writeNumber 15 [aD p, aI x, aI (nI a)] none [] h = some (.inl none, h') ∧ BR p q h h' (L ++ dgT a) := by
    intro h L b a ha hm
    have hd := dig_1 a ha
    unfold dgT at hm ⊢
    by_cases h10 : a < 10
    · rw [if_pos h10] at hm ⊢
      rw [e_X8_writeNumber_15, if_pos (Int32.not_le.mp (nI_ge h10 (by omega)))]
      exact T33 b a ha hm
    · rw [if_neg h10] at hm ⊢
      rw [e_X8_writeNumber_15, if_neg (Int32.not_lt.mpr (nI_le (by omega) (by omega)))]
      have hm2 : L.length + 2 ≤ 840 := hm
      obtain ⟨h1, e1, b1, b2⟩ := c_append (sc := sc) (x := nI (48 + a / 10)) b ⟨48 + a / 10, by omega, rfl⟩ (by omega)
      obtain ⟨h', e3, e4⟩ := T33 b1 a ha (by rw [List.length_append]; show L.length + 1 + 1 ≤ 840; omega)
      refine ⟨h', ?_, ?_⟩
      · simp only [e_X8_writeNumber_21, e_X8_writeNumber_28, bI_t (show ¬ nI 10 = 0 from by decide), hd.1, bI_t (SBL.ok b), e1, bC_v, Option.toList, List.nil_append]
        exact e3
      · have h9 := BR.seq b2 e4
        rw [List.append_assoc] at h9
        exact h9
  unfold nmT at hm ⊢
  rcases sgn_x h1 h2 with ⟨a, ha, rfl⟩ | ⟨a, ha0, ha, rfl⟩
  · have h5 : ¬ nI a < 0 := nI_pos (by omega)
    have h6 : 0 ≤ nI a := nI_pos' (by omega)
    rw [if_neg h5, nI_clamp (by omega)] at hm ⊢
    obtain ⟨h', e1, e2⟩ := T15 b a ha hm
    refine ⟨h', ?_, e2⟩
    rw [c0_X8_writeNumber, e_X8_writeNumber_0, if_pos h6, if_pos h6]
    exact e1
  · have hd := dig_1 a ha
    have h5 := hd.2.2.2.2.resolve_left (by omega)
    rw [if_pos h5.1, hd.2.2.2.1, nI_clamp (by omega)] at hm ⊢
    have hm2 : L.length + ((dgT a).length + 1) ≤ 840 := hm
    obtain ⟨h1', e1, b1, b2⟩ := c_append (sc := sc) (x := nI 45) b ⟨45, by omega, rfl⟩ (by omega)
    obtain ⟨h', e3, e4⟩ := T15 b1 a ha (by rw [List.length_append]; show L.length + 1 + (dgT a).length ≤ 840; omega)
    refine ⟨h', ?_, ?_⟩
    · rw [c0_X8_writeNumber, e_X8_writeNumber_0, if_neg h5.2, if_neg h5.2, hd.2.2.1]
      simp only [e_X8_writeNumber_9, bI_t (SBL.ok b), e1, bC_v, Option.toList, List.nil_append]
      exact e3
    · have h9 := BR.seq b2 e4
      rw [List.append_assoc] at h9
      exact h9
theorem nmT_len (h1 : -100 < x.toInt) (h2 : x.toInt < 100) : (nmT x).length ≤ 3 := by
  have h3 : ∀ a, (dgT a).length ≤ 2 := by
    intro a
    unfold dgT
    split
    · exact Nat.le_succ 1
    · exact Nat.le_refl 2
  unfold nmT
  split
  · have := h3 (-x).toNatClampNeg
    rw [List.length_cons]
    omega
  · have := h3 x.toNatClampNeg
    omega
theorem nmT_1 {c : Nat} (hc : c < 8) : (nmT (nI c)).length = 1 := by
  unfold nmT dgT
  rw [if_neg (nI_pos (by omega)), nI_clamp (by omega), if_pos (show c < 10 by omega)]
  rfl
theorem nmT_2 {c : Nat} (hc : c < 2 ^ 31) : (nmT (nI c)).length ≤ 2 := by
  unfold nmT dgT
  rw [if_neg (nI_pos (by omega)), nI_clamp (by omega)]
  split
  · exact Nat.le_succ 1
  · exact Nat.le_refl 2
end
