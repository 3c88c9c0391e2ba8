/-! PURE 19: effects compared; the history -/
def alB (P : Nat → Bool) : Nat → Nat → Bool
  | 0, _ => true
  | d + 1, i => P i && alB P d (i + 1)
def efX (v o : Nat → Int32) (m : Nat) (v' o' : Nat → Int32) (m' : Nat) : Bool := Nat.beq m m' && (alB (fun j => decide (o j = o' j)) m 0 && alB (fun j => decide (v j = v' j)) 16 8)
theorem alB_ag {P Q : Nat → Bool} : ∀ d i, (∀ j, i ≤ j → j < i + d → P j = Q j) → alB P d i = alB Q d i := by
  intro d
  induction d with
  | zero => exact fun _ _ => rfl
  | succ d ih =>
    intro i hh
    unfold alB
    rw [hh i (by omega) (by omega), ih (i + 1) (fun j h1 h2 => hh j (by omega) (by omega))]
section
variable {sc : SC} {h h' : AH} {p q p3 N n a i j k No m st m' st' No' L nx ch r0 : Nat} {f f3 v o v' o' : Nat → Int32} {x x6 : Int32} {S : Nat → Prop} {fm : Nat → AV}
theorem l_eff1 (g : MA h p v No o m st) (g2 : MA h q v' No' o' m st') (hm : m ≤ No) (hm' : m ≤ No') : ∀ d i, i + d = m → Run sc n_X5_hasEffectsOf 15 [aD p, aD q, aI (nI i)] none [] h = if alB (fun j => decide (o j = o' j)) d i = true then Run sc n_X5_hasEffectsOf 46 [aD p, aD q, aI (nI m)] none [] h else some (.inl (some (aI (zI false))), h) := by
  have hN := g.2.2.2
  intro d
  induction d with
  | zero =>
    intro i hi
    have him : i = m := by omega
    subst him
    rw [e_X5_hasEffectsOf_15, g.f2, bF_I, e_X5_hasEffectsOf_20, if_pos (nI_le (Nat.le_refl i) (by omega))]
    rfl
  | succ d ih =>
    intro i hi
    have h1 : ¬ nI m ≤ nI i := nI_ge (by omega) (by omega)
    rw [e_X5_hasEffectsOf_15]
    simp only [e_X5_hasEffectsOf_20, e_X5_hasEffectsOf_23, e_X5_hasEffectsOf_27, e_X5_hasEffectsOf_29, e_X5_hasEffectsOf_33, e_X5_hasEffectsOf_35, g.f1, g.f2, g2.f1, g.l2 (show i < No by omega), g2.l2 (show i < No' by omega), h1, bO_some, bF_I, bF_D, bF_C, bC_v, pk_mul, nI_add, Option.toList, List.cons_append, List.nil_append, zI_0, if_true, if_false, eq_self, not_true_eq_false, not_false_eq_true]
    by_cases hh : o i = o' i
    · rw [if_pos hh, e_X5_hasEffectsOf_40, nI_add, ih (i + 1) (by omega)]
      simp only [alB, decide_eq_true hh, Bool.true_and]
    · rw [if_neg hh, e_X5_hasEffectsOf_38]
      simp only [alB, decide_eq_false hh, Bool.false_and, reduceCtorEq, if_false]
      rfl
theorem l_eff2 (g : MA h p v No o m st) (g2 : MA h q v' No' o' m' st') : ∀ d i, i + d = 24 → Run sc n_X5_hasEffectsOf 49 [aD p, aD q, aI (nI i)] none [] h = some (.inl (some (aI (zI (alB (fun j => decide (v j = v' j)) d i)))), h) := by
  have hl : lenA sc h (aD (p + 1)) = some 24 := lenA_D g.2.1
  intro d
  induction d with
  | zero =>
    intro i hi
    have him : i = 24 := by omega
    subst him
    simp only [e_X5_hasEffectsOf_49, e_X5_hasEffectsOf_54, e_X5_hasEffectsOf_55, e_X5_hasEffectsOf_81, g.f0, hl, bO_some, bF_I, bF_D, bF_C, bC_v, pk_mul, nI_add, Option.toList, List.cons_append, List.nil_append, show nI 24 ≤ nI 24 from by decide, if_true]
    rfl
  | succ d ih =>
    intro i hi
    have h1 : ¬ nI 24 ≤ nI i := nI_ge (by omega) (by omega)
    rw [e_X5_hasEffectsOf_49]
    simp only [e_X5_hasEffectsOf_54, e_X5_hasEffectsOf_55, e_X5_hasEffectsOf_58, e_X5_hasEffectsOf_62, e_X5_hasEffectsOf_64, e_X5_hasEffectsOf_68, e_X5_hasEffectsOf_70, g.f0, hl, g2.f0, g.l1 (show i < 24 by omega), g2.l1 (show i < 24 by omega), h1, bO_some, bF_I, bF_D, bF_C, bC_v, pk_mul, nI_add, Option.toList, List.cons_append, List.nil_append, zI_0, if_true, if_false, eq_self, not_true_eq_false, not_false_eq_true]
    by_cases hh : v i = v' i
    · rw [if_pos hh, e_X5_hasEffectsOf_75, nI_add, ih (i + 1) (by omega)]
      simp only [alB, decide_eq_true hh, Bool.true_and]
    · rw [if_neg hh, e_X5_hasEffectsOf_73]
      simp only [alB, decide_eq_false hh, Bool.false_and]
      rfl
theorem c_X5_hasEffectsOf (g : MA h p v No o m st) (g2 : MA h q v' No' o' m' st') (hm : m ≤ No) (hm' : m' ≤ No') : Call sc n_X5_hasEffectsOf [aD p, aD q] h = some (.inl (some (aI (zI (efX v o m v' o' m')))), h) := by
  have hN := g.2.2.2
  have hN' := g2.2.2.2
  simp only [c0_X5_hasEffectsOf, e_X5_hasEffectsOf_0, e_X5_hasEffectsOf_4, e_X5_hasEffectsOf_8, g.f2, g2.f2, bO_some, bF_I, bF_D, bF_C, bC_v, pk_mul, nI_add, Option.toList, List.cons_append, List.nil_append]
  unfold efX
  by_cases hh : m = m'
  · subst hh
    rw [if_pos rfl, e_X5_hasEffectsOf_13, l_eff1 g g2 hm hm' m 0 (by omega), show Nat.beq m m = true from Nat.beq_refl _, Bool.true_and]
    split
    · rename_i h1
      rw [h1, e_X5_hasEffectsOf_46, l_eff2 g g2 16 8 rfl, Bool.true_and]
    · rename_i h1
      rw [Bool.not_eq_true] at h1
      rw [h1, Bool.false_and]
  · rw [if_neg (fun z => hh (nI_inj (by omega) (by omega) z)), e_X5_hasEffectsOf_11, beq_f hh, Bool.false_and]
    rfl
/-- the history's object p, its row, eight programs from r0 on -/
def HI (h : AH) (p r0 nx ch : Nat) : Prop := hget h p = some (oO 6 [aD (p + 1), aI (nI nx), aI (nI ch)]) ∧ ∃ fm, hget h (p + 1) = some (oR 8 fm) ∧ ∀ i, i < 8 → fm i = aD (r0 + 2 * i)
theorem HI.keep (g : HI h p r0 nx ch) (hf : Fr S h h') (h0 : ¬ S p) (h1 : ¬ S (p + 1)) : HI h' p r0 nx ch := ⟨(hf.2.2.1 _ h0).trans g.1, g.2.choose, (hf.2.2.1 _ h1).trans g.2.choose_spec.1, g.2.choose_spec.2⟩
theorem HI.ld (g : HI h p r0 nx ch) (hi : i < 8) : ldR sc h (aD (p + 1)) (nI i) = some (aD (r0 + 2 * i)) := by
  obtain ⟨_, fm, h1, h2⟩ := g
  unfold ldR oget
  simp only [h1]
  rw [nI_clamp (by omega), h2 i hi, if_pos ⟨inb_nI hi (by omega), rfl⟩]
theorem HI.p1 (g : HI h p r0 nx ch) (k : Nat) : ∃ h', putF h p 6 1 0 (aI (nI k)) = some h' ∧ HI h' p r0 k ch ∧ Fr (fun x => x = p) h h' := by
  refine ⟨hset h p (oO 6 [aD (p + 1), aI (nI k), aI (nI ch)]), ?_, ⟨hget_set g.1, g.2.choose, ?_, g.2.choose_spec.2⟩, fr_set g.1 rfl⟩
  · rw [putF_D g.1 (show 1 < 3 by decide) rfl]
    rfl
  · rw [hget_ne (by omega)]
    exact g.2.choose_spec.1
theorem HI.p2 (g : HI h p r0 nx ch) (k : Nat) : ∃ h', putF h p 6 2 0 (aI (nI k)) = some h' ∧ HI h' p r0 nx k ∧ Fr (fun x => x = p) h h' := by
  refine ⟨hset h p (oO 6 [aD (p + 1), aI (nI nx), aI (nI k)]), ?_, ⟨hget_set g.1, g.2.choose, ?_, g.2.choose_spec.2⟩, fr_set g.1 rfl⟩
  · rw [putF_D g.1 (show 2 < 3 by decide) rfl]
    rfl
  · rw [hget_ne (by omega)]
    exact g.2.choose_spec.1
theorem HI.f0 (g : HI h p r0 nx ch) : getF sc h (aD p) 6 0 = some (aD (p + 1)) := getF_D g.1 rfl
theorem HI.f1 (g : HI h p r0 nx ch) : getF sc h (aD p) 6 1 = some (aI (nI nx)) := getF_D g.1 rfl
theorem HI.f2 (g : HI h p r0 nx ch) : getF sc h (aD p) 6 2 = some (aI (nI ch)) := getF_D g.1 rfl
theorem HI.ok (g : HI h p r0 nx ch) : rOK sc h (aD p) 6 = true := rOK_D g.1
theorem mod8 : ∀ k, k < 16 → nI k - nI k / nI 8 * nI 8 = nI (k % 8) := by decide
theorem c_X3_remember {n1 : Nat} {f1 : Nat → Int32} (g : HI h p r0 nx ch) (hnx : nx < 8) (hch : ch ≤ 8) (gp : PG h q N n f) (g1 : PG h (r0 + 2 * nx) 300 n1 f1) (hp : p + 1 < r0) (hq : q + 1 < p) : ∃ h' f', Call sc n_X3_remember [aD p, aD q] h = some (.inl none, h') ∧ HI h' p r0 ((nx + 1) % 8) (if ch < 8 then ch + 1 else 8) ∧ PG h' (r0 + 2 * nx) 300 n f' ∧ xC n f' = xC n f ∧ Fr (fun x => x = p ∨ x = r0 + 2 * nx ∨ x = r0 + 2 * nx + 1) h h' := by
  have hN := gp.2.2.1
  have hN2 := gp.2.2.2
  have e1 := c_X6_copyFrom (sc := sc) g1 gp (by omega) (show n * 5 ≤ 300 by omega)
  have ga := g1.to (f' := cpy f f1 0 0 (n * 5)) (show n * 5 ≤ 300 by omega)
  have fr1 := g1.fr (m := n) (f' := cpy f f1 0 0 (n * 5))
  have gh := g.keep fr1 (by omega) (by omega)
  obtain ⟨h2, e2, g2, fr2⟩ := gh.p1 ((nx + 1) % 8)
  obtain ⟨h3, e3, g3, fr3⟩ := g2.p2 (if ch < 8 then ch + 1 else 8)
  have hmin : (if nI 8 < nI (ch + 1) then nI 8 else nI (ch + 1)) = nI (if ch < 8 then ch + 1 else 8) := by
    by_cases hc : ch < 8
    · rw [if_pos hc, if_neg (Int32.not_lt.mpr (nI_le (by omega) (by omega)))]
    · have : ch = 8 := by omega
      subst this
      rfl
  refine ⟨h3, cpy f f1 0 0 (n * 5), ?_, g3, (ga.keep fr2 (by omega) (by omega)).keep fr3 (by omega) (by omega), xC_cpy0, ((fr1.mono (fun y z => Or.inr z)).trans (fr2.mono (fun y z => Or.inl z))).trans (fr3.mono (fun y z => Or.inl z))⟩
  simp only [c0_X3_remember, e_X3_remember_0, e_X3_remember_4, e_X3_remember_8, e_X3_remember_9, e_X3_remember_13, e_X3_remember_18, e_X3_remember_23, e_X3_remember_26, e_X3_remember_31, e_X3_remember_41, g.f0, g.f1, g.ld hnx, bI_t g1.ok, e1, gh.f1, bI_t (show ¬ nI 8 = 0 from by decide), bO_some, bF_I, bF_D, bF_C, bC_v, pk_mul, nI_add, Option.toList, List.cons_append, List.nil_append, mod8 (nx + 1) (by omega), e2, g2.f2, hmin, e3]
theorem c_X3_takeBack {n1 : Nat} {f1 : Nat → Int32} (g : HI h p r0 nx ch) (hnx : nx < 8) (hch : 0 < ch) (hch8 : ch ≤ 8) (gp : PG h q 300 n f) (g1 : PG h (r0 + 2 * ((nx + 7) % 8)) 300 n1 f1) (hp : p + 1 < r0) (hq : q + 1 < p) : ∃ h' f', Call sc n_X3_takeBack [aD p, aD q] h = some (.inl none, h') ∧ HI h' p r0 ((nx + 7) % 8) (ch - 1) ∧ PG h' q 300 n1 f' ∧ xC n1 f' = xC n1 f1 ∧ Fr (fun x => x = p ∨ x = q ∨ x = q + 1) h h' := by
  have hN := g1.2.2.1
  obtain ⟨h2, e2, g2, fr2⟩ := g.p1 ((nx + 7) % 8)
  have gp2 := gp.keep fr2 (by omega) (by omega)
  have g12 := g1.keep fr2 (by omega) (by omega)
  have e1 := c_X6_copyFrom (sc := sc) gp2 g12 (by omega) hN
  have ga := gp2.to (f' := cpy f1 f 0 0 (n1 * 5)) hN
  have fr1 := gp2.fr (m := n1) (f' := cpy f1 f 0 0 (n1 * 5))
  have gh := g2.keep fr1 (by omega) (by omega)
  obtain ⟨h3, e3, g3, fr3⟩ := gh.p2 (ch - 1)
  refine ⟨h3, cpy f1 f 0 0 (n1 * 5), ?_, g3, ga.keep fr3 (by omega) (by omega), xC_cpy0, ((fr2.mono (fun y z => Or.inl z)).trans (fr1.mono (fun y z => Or.inr z))).trans (fr3.mono (fun y z => Or.inl z))⟩
  simp only [c0_X3_takeBack, e_X3_takeBack_0, e_X3_takeBack_5, e_X3_takeBack_13, e_X3_takeBack_16, e_X3_takeBack_21, e_X3_takeBack_25, e_X3_takeBack_26, e_X3_takeBack_29, e_X3_takeBack_34, e_X3_takeBack_39, g.f1, bI_t (show ¬ nI 8 = 0 from by decide), bO_some, bF_I, bF_D, bF_C, bC_v, pk_mul, nI_add, Option.toList, List.cons_append, List.nil_append, pk_sub (show 1 ≤ nx + 8 by omega), show nx + 8 - 1 = nx + 7 by omega, mod8 (nx + 7) (by omega), e2, g2.f0, g2.f1, g2.ld (show (nx + 7) % 8 < 8 by omega), bI_t gp2.ok, e1, gh.f2, pk_sub (show 1 ≤ ch by omega), e3]
end
