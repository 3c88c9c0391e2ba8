/-! PURE 26: the writer -/
def dgT (a : Nat) : List Int32 := if a < 10 then [nI (48 + a % 10)] else [nI (48 + a / 10), nI (48 + a % 10)]
def nmT (x : Int32) : List Int32 := if x < 0 then nI 45 :: dgT (-x).toNatClampNeg else dgT x.toNatClampNeg
def opT (X : Nat → Nat → Int32) (i o : Nat) : List Int32 := if (fL (kx X i)).getD o 0 = nI 45 then [] else nI 32 :: nmT (X i (1 + o))
def insT (X : Nat → Nat → Int32) (i : Nat) : List Int32 := ((wL (kx X i) ++ (if X i 4 = nI 1 then [nI 42] else [])) ++ opT X i 0) ++ opT X i 1 ++ opT X i 2
def prT (X : Nat → Nat → Int32) : Nat → List Int32
  | 0 => []
  | j + 1 => (prT X j ++ (if 0 < j then [if slX X j = true then nI 124 else nI 59] else [])) ++ insT X j
def SBL (h : AH) (p q N : Nat) (L : List Int32) : Prop := SB h p q N L.length (fun i => L.getD i 0)
/-- the builder p goes from (q, N) to the letters L' -/
def BR (p : Nat) (h : AH) (q N : Nat) (h' : AH) (L' : List Int32) : Prop := ∃ q' N', SBL h' p q' N' L' ∧ FB (BX p q) h h' N N' ∧ (q' = q ∨ h.1.length ≤ q')
section
variable {sc : SC} {h h' h'' : AH} {p q r N m k i j n a Nr : Nat} {tx f : Nat → Int32} {S : Nat → Prop} {x : Int32} {L L' w : List Int32} {v3 v4 : AV}
theorem BR.seq {q1 N1 : Nat} (b : FB (BX p q) h h' N N1 ∧ (q1 = q ∨ h.1.length ≤ q1)) (c : BR p h' q1 N1 h'' L') : BR p h q N h'' L' := by
  obtain ⟨q2, N2, c1, c2, c3⟩ := c
  refine ⟨q2, N2, c1, b.1.trans c2 ?_, ?_⟩
  · intro i hi hz
    rcases hz with hz | hz
    · exact Or.inl hz
    · rcases b.2 with b2 | b2
      · exact Or.inr (hz.trans b2)
      · omega
  · have := b.1.2.2.1
    rcases c3 with c3 | c3
    · rw [c3]
      exact b.2
    · exact Or.inr (by omega)
theorem ap1 (L : List Int32) (x : Int32) : ∀ i, i < (L ++ [x]).length → (L ++ [x]).getD i 0 = upd (fun i => L.getD i 0) L.length x i := by
  intro i hi
  rw [List.length_append] at hi
  have hi2 : i < L.length + 1 := hi
  rw [upd_eq]
  by_cases h1 : i = L.length
  · subst h1
    rw [if_pos rfl, List.getD_eq_getElem?_getD, List.getElem?_append_right (Nat.le_refl _), Nat.sub_self]
    rfl
  · rw [if_neg h1, List.getD_eq_getElem?_getD, List.getElem?_append_left (by omega), List.getD_eq_getElem?_getD]
theorem apL (L w : List Int32) : ∀ i, i < (L ++ w).length → (L ++ w).getD i 0 = apw (fun i => L.getD i 0) L.length w i := by
  intro i hi
  rw [List.length_append] at hi
  unfold apw
  by_cases h1 : L.length ≤ i
  · rw [if_pos ⟨h1, hi⟩, List.getD_eq_getElem?_getD, List.getElem?_append_right h1, List.getD_eq_getElem?_getD]
  · rw [if_neg (fun z => h1 z.1), List.getD_eq_getElem?_getD, List.getElem?_append_left (by omega)]
    show _ = L.getD i 0
    rw [List.getD_eq_getElem?_getD]
theorem b_append (g : SBL h p q N L) (hx : AS x) (hm : L.length < 1200) : ∃ h', Call sc n_J4_append_cf468 [aD p, aI x] h = some (.inl (some (aD p)), h') ∧ BR p h q N h' (L ++ [x]) := by
  obtain ⟨h', q', N', e1, e2, e3, e4⟩ := c_append (sc := sc) g hx hm
  refine ⟨h', e1, q', N', ?_, e3, e4⟩
  unfold SBL
  rw [List.length_append]
  exact e2.txt (fun i hi => ap1 L x i (by rw [List.length_append]; exact hi))
theorem b_appendW (g : SBL h p q N L) (hk : k < 12) (hm : L.length + 5 ≤ 1200) : ∃ h', Call sc n_J4_append_15ec4 [aD p, aC (wS k)] h = some (.inl (some (aD p)), h') ∧ BR p h q N h' (L ++ wL k) := by
  obtain ⟨h', q', N', e1, e2, e3, e4⟩ := c_appendW (sc := sc) g hk hm
  refine ⟨h', e1, q', N', ?_, e3, e4⟩
  unfold SBL
  rw [List.length_append]
  exact e2.txt (fun i hi => apL L (wL k) i (by rw [List.length_append]; exact hi))
theorem dig_1 : ∀ a, a < 100 → ((nI 48 + nI a / nI 10).toUInt32 % 65536).toInt32 = nI (48 + a / 10) ∧ ((nI 48 + (nI a - nI a / nI 10 * nI 10)).toUInt32 % 65536).toInt32 = nI (48 + a % 10) ∧ (0 : Int32) - (-(nI a)) = nI a ∧ - -(nI a) = nI a ∧ (a = 0 ∨ ((-(nI a)) < 0 ∧ ¬ 0 ≤ -(nI a))) := by decide +kernel
theorem sgn_x (h1 : -100 < x.toInt) (h2 : x.toInt < 100) : (∃ a, a < 100 ∧ x = nI a) ∨ (∃ a, 0 < a ∧ a < 100 ∧ x = -(nI a)) := by
  by_cases h3 : 0 ≤ x.toInt
  · refine Or.inl ⟨x.toInt.toNat, by omega, ?_⟩
    apply Int32.toInt_inj.mp
    rw [nI_toInt (by omega)]
    omega
  · refine Or.inr ⟨(-x.toInt).toNat, by omega, by omega, ?_⟩
    apply Int32.toInt_inj.mp
    rw [sb_negT (by omega)]
    omega
def WTR (h : AH) (p sb : Nat) : Prop := hget h p = some (oO 10 [aD sb])
theorem WTR.f0 {sb : Nat} (g : WTR h p sb) : getF sc h (aD p) 10 0 = some (aD sb) := getF_D g rfl
theorem WTR.ok {sb : Nat} (g : WTR h p sb) : rOK sc h (aD p) 10 = true := rOK_D g
theorem WTR.kb {sb N' : Nat} (g : WTR h r sb) (hf : FB (BX p q) h h' N N') (h1 : ¬ r = p) (h2 : ¬ r = q) : WTR h' r sb := by
  refine (hf.2.2.2.1 r (hget_lt g) ?_).trans g
  rintro (z | z)
  · exact h1 z
  · exact h2 z
theorem PG.kb {N' : Nat} (g : PG h r Nr n f) (hf : FB (BX p q) h h' N N') (h1 : ¬ r = p) (h2 : ¬ r = q) (h3 : ¬ r + 1 = p) (h4 : ¬ r + 1 = q) : PG h' r Nr n f := by
  refine ⟨(hf.2.2.2.1 r (hget_lt g.1) ?_).trans g.1, (hf.2.2.2.1 (r + 1) (hget_lt g.2.1) ?_).trans g.2.1, g.2.2⟩
  · rintro (z | z)
    · exact h1 z
    · exact h2 z
  · rintro (z | z)
    · exact h3 z
    · exact h4 z
theorem c_X8_writeNumber {sb : Nat} (g : WTR h p sb) (b : SBL h sb q N L) (hpq : ¬ p = q) (hps : ¬ p = sb) (h1 : -100 < x.toInt) (h2 : x.toInt < 100) (hm : L.length + 3 ≤ 1200) : ∃ h', Call sc n_X8_writeNumber [aD p, aI x] h = some (.inl none, h') ∧ BR sb h q N h' (L ++ nmT x) := by
  have T19 : ∀ {h : AH} {q N : Nat} {L : List Int32} (g : WTR h p sb) (b : SBL h sb q N L) (hpq : ¬ p = q) (a : Nat) (ha : a < 100) (hm : L.length + 2 ≤ 1200), ∃ h', Run sc n_X8_writeNumber 19 [aD p, aI x, aI (nI a)] none [] h = some (.inl none, h') ∧ BR sb h q N h' (L ++ dgT a) := by
    intro h q N L g b hpq a ha hm
    have hd := dig_1 a ha
    have T41 : ∀ {h : AH} {q N : Nat} {L : List Int32} (g : WTR h p sb) (b : SBL h sb q N L) (hm : L.length + 1 ≤ 1200), ∃ h', Run sc n_X8_writeNumber 41 [aD p, aI x, aI (nI a)] none [] h = some (.inl none, h') ∧ BR sb h q N h' (L ++ [nI (48 + a % 10)]) := by
      intro h q N L g b hm
      obtain ⟨h', e1, e2⟩ := b_append (sc := sc) (x := nI (48 + a % 10)) b ⟨48 + a % 10, by omega, rfl⟩ (by omega)
      refine ⟨h', ?_, e2⟩
      simp only [e_X8_writeNumber_41, e_X8_writeNumber_45, e_X8_writeNumber_51, e_X8_writeNumber_56, g.f0, bF_D, bI_t (show ¬ nI 10 = 0 from by decide), hd.2.1, bI_t (SB.ok b), e1, bC_v, Option.toList, List.nil_append, List.cons_append]
    unfold dgT
    by_cases h10 : a < 10
    · rw [if_pos h10, e_X8_writeNumber_19, if_pos (Int32.not_le.mp (nI_ge h10 (by omega)))]
      exact T41 g b (by omega)
    · rw [if_neg h10, e_X8_writeNumber_19, if_neg (Int32.not_lt.mpr (nI_le (by omega) (by omega)))]
      obtain ⟨h1, e1, q1, N1, b1, b2, b3⟩ := b_append (sc := sc) (x := nI (48 + a / 10)) b ⟨48 + a / 10, by omega, rfl⟩ (by omega)
      obtain ⟨h', e3, e4⟩ := T41 (g.kb b2 hps hpq) b1 (by rw [List.length_append]; show L.length + 1 + 1 ≤ 1200; omega)
      refine ⟨h', ?_, ?_⟩
      · simp only [e_X8_writeNumber_25, e_X8_writeNumber_29, e_X8_writeNumber_35, e_X8_writeNumber_40, g.f0, bF_D, bI_t (show ¬ nI 10 = 0 from by decide), hd.1, bI_t (SB.ok b), e1, bC_v, Option.toList, List.nil_append, List.cons_append]
        exact e3
      · have h9 := BR.seq ⟨b2, b3⟩ e4
        rw [List.append_assoc] at h9
        exact h9
  unfold nmT
  rcases sgn_x h1 h2 with ⟨a, ha, rfl⟩ | ⟨a, ha0, ha, rfl⟩
  · have h5 : ¬ nI a < 0 := nI_pos (by omega)
    have h6 : 0 ≤ nI a := nI_pos' (by omega)
    obtain ⟨h', e1, e2⟩ := T19 g b hpq a ha (by omega)
    refine ⟨h', ?_, ?_⟩
    · rw [c0_X8_writeNumber, e_X8_writeNumber_0, if_pos h6, if_pos h6]
      exact e1
    · rw [if_neg h5, nI_clamp (by omega)]
      exact e2
  · have hd := dig_1 a ha
    have h5 := hd.2.2.2.2.resolve_left (by omega)
    obtain ⟨h1', e1, q1, N1, b1, b2, b3⟩ := b_append (sc := sc) (x := nI 45) b ⟨45, by omega, rfl⟩ (by omega)
    have hl : (L ++ [nI 45]).length + 2 ≤ 1200 := by
      rw [List.length_append]
      show L.length + 1 + 2 ≤ 1200
      omega
    have hq1 : ¬ p = q1 := by
      have := hget_lt g
      rcases b3 with b3 | b3 <;> omega
    obtain ⟨h', e3, e4⟩ := T19 (g.kb b2 hps hpq) b1 hq1 a ha hl
    refine ⟨h', ?_, ?_⟩
    · rw [c0_X8_writeNumber, e_X8_writeNumber_0, if_neg h5.2, if_neg h5.2, hd.2.2.1]
      simp only [e_X8_writeNumber_9, e_X8_writeNumber_13, e_X8_writeNumber_18, g.f0, bF_D, bI_t (SB.ok b), e1, bC_v, Option.toList, List.nil_append, List.cons_append]
      exact e3
    · rw [if_pos h5.1, hd.2.2.2.1, nI_clamp (by omega)]
      have h9 := BR.seq ⟨b2, b3⟩ e4
      rw [List.append_assoc] at h9
      exact h9
theorem nmT_len (h1 : -100 < x.toInt) (h2 : x.toInt < 100) : (nmT x).length ≤ 3 := by
  have h3 : ∀ a, (dgT a).length ≤ 2 := by
    intro a
    unfold dgT
    split
    · exact Nat.le_succ 1
    · exact Nat.le_refl 2
  unfold nmT
  split
  · have := h3 (-x).toNatClampNeg
    rw [List.length_cons]
    omega
  · have := h3 x.toNatClampNeg
    omega
end
