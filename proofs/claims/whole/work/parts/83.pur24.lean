/-! PURE 24: the string builder -/
theorem sh0r (x : Int32) : x >>> ((0 : Int32) &&& 31) = x := by
  rw [show ((0 : Int32) &&& 31) = 0 from by decide]
  simp
theorem sh0l (x : Int32) : x <<< ((0 : Int32) &&& 31) = x := by
  rw [show ((0 : Int32) &&& 31) = 0 from by decide]
  simp
theorem asc_b : ∀ c, c < 128 → narK 2 ((nI c).toInt8.toInt32) = nI c ∧ (((nI c) &&& nI 255).toUInt32 % 65536).toInt32 = nI c ∧ narK 2 (nI c) = nI c ∧ retK (some FieldType.char) (nI c) = true := by decide +kernel
def AS (x : Int32) : Prop := ∃ c, c < 128 ∧ x = nI c
/-- h' is h but for S and what was made behind it; the builder's row grew from N to N' -/
def FB (S : Nat → Prop) (h h' : AH) (N N' : Nat) : Prop := h'.2 = h.2 ∧ h'.1.length + N ≤ h.1.length + N' ∧ h.1.length ≤ h'.1.length ∧ (∀ i, i < h.1.length → ¬ S i → hget h' i = hget h i) ∧ costS h' + 2 * N ≤ costS h + 2 * N' ∧ N ≤ N'
theorem FB.of {S : Nat → Prop} {h h' : AH} {N : Nat} (a : Fr S h h') : FB S h h' N N := ⟨a.1, by rw [a.2.1]; omega, by rw [a.2.1]; omega, fun i _ hi => a.2.2.1 i hi, by rw [a.2.2.2]; omega, Nat.le_refl _⟩
theorem FB.trans {S T : Nat → Prop} {h h' h'' : AH} {N N' N'' : Nat} (a : FB S h h' N N') (b : FB T h' h'' N' N'') (hT : ∀ i, i < h.1.length → T i → S i) : FB S h h'' N N'' := by
  obtain ⟨a1, a2, a3, a4, a5, a6⟩ := a
  obtain ⟨b1, b2, b3, b4, b5, b6⟩ := b
  exact ⟨b1.trans a1, by omega, by omega, fun i hi hs => (b4 i (by omega) (fun z => hs (hT i hi z))).trans (a4 i hi hs), by omega, by omega⟩
theorem FB.mono {S T : Nat → Prop} {h h' : AH} {N N' : Nat} (a : FB S h h' N N') (hT : ∀ i, S i → T i) : FB T h h' N N' := ⟨a.1, a.2.1, a.2.2.1, fun i hi hs => a.2.2.2.1 i hi (fun z => hs (hT i z)), a.2.2.2.2⟩
theorem hget_push {h : AH} {o : AO} {i : Nat} (hi : i < h.1.length) : hget (hpush h o) i = hget h i := by
  show (h.1 ++ [o])[i]? = h.1[i]?
  rw [List.getElem?_append_left hi]
theorem hget_new {h : AH} {o : AO} : hget (hpush h o) h.1.length = some o := by
  show (h.1 ++ [o])[h.1.length]? = some o
  rw [List.getElem?_append_right (Nat.le_refl _), Nat.sub_self]
  rfl
theorem push_len {h : AH} {o : AO} : (hpush h o).1.length = h.1.length + 1 := by
  show (h.1 ++ [o]).length = _
  rw [List.length_append]
  rfl
theorem push_cost {h : AH} {o : AO} : costS (hpush h o) = costS h + osize o := by
  show ((h.1 ++ [o]).map osize).sum + 6 * h.2 = (h.1.map osize).sum + 6 * h.2 + osize o
  rw [List.map_append, List.sum_append]
  show (h.1.map osize).sum + (osize o + 0) + 6 * h.2 = _
  omega
/-- a builder's object p with its row q: count letters -/
def SB (h : AH) (p q N m : Nat) (tx : Nat → Int32) : Prop := ∃ ml b, hget h p = some (oO 1 [aD q, aI 0, aI (zI ml), aI (nI m)]) ∧ hget h q = some (oI 2 N b) ∧ p < q ∧ m ≤ N ∧ 16 ≤ N ∧ N ≤ 2402 ∧ (∀ i, i < m → b i = tx i ∧ AS (tx i)) ∧ ∀ i, i < N → narK 2 (b i) = b i
def BX (p q : Nat) : Nat → Prop := fun x => x = p ∨ x = q
section
variable {sc : SC} {h h' : AH} {p q N m k i j n : Nat} {tx : Nat → Int32} {S : Nat → Prop} {x : Int32} {w : List Int32} {s : Nat}
theorem SB.ok (g : SB h p q N m tx) : rOK sc h (aD p) 1 = true := by
  obtain ⟨ml, b, g1, _⟩ := g
  exact rOK_D g1
theorem c_newCapacity {ml : Bool} {b : Nat → Int32} (g1 : hget h p = some (oO 1 [aD q, aI 0, aI (zI ml), aI (nI m)])) (g2 : hget h q = some (oI 2 N b)) (hk : N < k) (hk2 : k ≤ 2 * N + 2) (hN : N ≤ 2402) : Call sc n_J5_newCapacity_0f7a4 [aD p, aI (nI k)] h = some (.inl (some (aI (nI (2 * N + 2)))), h) := by
  have f0 : getF sc h (aD p) 1 0 = some (aD q) := getF_D g1 rfl
  have f1 : getF sc h (aD p) 1 1 = some (aI 0) := getF_D g1 rfl
  have hl : lenA sc h (aD q) = some N := lenA_D g2
  have e1 : Call sc n_J8_newLength_cabcc [aI (nI N), aI (nI (k - N)), aI (nI (N + 2))] h = some (.inl (some (aI (nI (2 * N + 2)))), h) := by
    have hmax : (if nI (k - N) < nI (N + 2) then nI (N + 2) else nI (k - N)) = nI (N + 2) := by
      by_cases hh : k - N < N + 2
      · rw [if_pos (Int32.not_le.mp (nI_ge hh (by omega)))]
      · rw [if_neg (Int32.not_lt.mpr (nI_le (by omega) (by omega))), show k - N = N + 2 by omega]
    have h9 : ¬ nI (N + (N + 2)) ≤ nI 0 := nI_ge (by omega) (by omega)
    have h8 : ¬ nI 2147483639 < nI (N + (N + 2)) := Int32.not_lt.mpr (nI_le (by omega) (by omega))
    simp only [c0_J8_newLength_cabcc, e_J8_newLength_cabcc_0, e_J8_newLength_cabcc_13, e_J8_newLength_cabcc_19, hmax, nI_add, h9, h8, if_false]
    rw [show N + (N + 2) = 2 * N + 2 by omega]
  have hne : ¬ nI (2 * N + 2) = nI 2147483647 := fun z => by
    have := nI_inj (by omega) (by omega) z
    omega
  simp only [c0_J5_newCapacity_0f7a4, e_J5_newCapacity_0f7a4_0, e_J5_newCapacity_0f7a4_4, e_J5_newCapacity_0f7a4_5, e_J5_newCapacity_0f7a4_11, e_J5_newCapacity_0f7a4_27, e_J5_newCapacity_0f7a4_32, e_J5_newCapacity_0f7a4_51, e_J5_newCapacity_0f7a4_57, f0, f1, hl, bO_some, bF_I, bF_D, bF_C, bC_v, pk_mul, nI_add, Option.toList, List.cons_append, List.nil_append, sh0l, sh0r, pk_sub (show N ≤ k by omega), e1, hne, not_false_eq_true, if_true]
theorem c_ens (g : SB h p q N m tx) (hk : k ≤ N + 16) (hk2 : k ≤ 1200) : ∃ h' q' N', Call sc n_J5_ensureCapacityInternal_d00df [aD p, aI (nI k)] h = some (.inl none, h') ∧ SB h' p q' N' m tx ∧ k ≤ N' ∧ FB (BX p q) h h' N N' ∧ (q' = q ∨ h.1.length ≤ q') := by
  obtain ⟨ml, b, g1, g2, g3, g4, g5, g6, g7, g8⟩ := g
  have f0 : getF sc h (aD p) 1 0 = some (aD q) := getF_D g1 rfl
  have f1 : getF sc h (aD p) 1 1 = some (aI 0) := getF_D g1 rfl
  have hl : lenA sc h (aD q) = some N := lenA_D g2
  by_cases hkN : k ≤ N
  · refine ⟨h, q, N, ?_, ⟨ml, b, g1, g2, g3, g4, g5, g6, g7, g8⟩, hkN, FB.of Fr.rfl, Or.inl rfl⟩
    have h9 : nI k - nI N ≤ 0 := by
      rw [Int32.le_iff_toInt_le, pk_sub_toInt (by omega) (by omega)]
      show (k : Int) - N ≤ 0
      omega
    simp only [c0_J5_ensureCapacityInternal_d00df, e_J5_ensureCapacityInternal_d00df_0, e_J5_ensureCapacityInternal_d00df_4, e_J5_ensureCapacityInternal_d00df_5, e_J5_ensureCapacityInternal_d00df_9, e_J5_ensureCapacityInternal_d00df_17, e_J5_ensureCapacityInternal_d00df_22, e_J5_ensureCapacityInternal_d00df_27, e_J5_ensureCapacityInternal_d00df_31, e_J5_ensureCapacityInternal_d00df_35, e_J5_ensureCapacityInternal_d00df_38, f0, f1, hl, bO_some, bF_I, bF_D, bF_C, bC_v, pk_mul, nI_add, Option.toList, List.cons_append, List.nil_append, sh0r, h9, if_true]
  · have e1 := c_newCapacity (sc := sc) (k := k) g1 g2 (by omega) (by omega) g6
    have h9 : ¬ nI k - nI N ≤ 0 := by
      rw [pk_sub (by omega)]
      exact nI_nle (by omega) (by omega)
    have hq := hget_lt g2
    have hp := hget_lt g1
    have hN' : ¬ (nI (2 * N + 2) < 0 ∨ 67108864 < 2 * N + 2) := by
      rintro (z | z)
      · exact nI_pos (by omega) z
      · omega
    have hne : ¬ nI (2 * N + 2) = nI N := fun z => by
      have := nI_inj (by omega) (by omega) z
      omega
    have a2 : hget (hpush h (oI 2 (2 * N + 2) (fun _ => 0))) q = some (oI 2 N b) := (hget_push hq).trans g2
    have a1 : hget (hpush h (oI 2 (2 * N + 2) (fun _ => 0))) p = some (oO 1 [aD q, aI 0, aI (zI ml), aI (nI m)]) := (hget_push hp).trans g1
    have a3 : hget (hpush h (oI 2 (2 * N + 2) (fun _ => 0))) h.1.length = some (oI 2 (2 * N + 2) (fun _ => 0)) := hget_new
    have hl2 : lenA sc (hpush h (oI 2 (2 * N + 2) (fun _ => 0))) (aD q) = some N := lenA_D a2
    have hmin : (if nI (2 * N + 2) < nI N then nI (2 * N + 2) else nI N) = nI N := if_neg (Int32.not_lt.mpr (nI_le (by omega) (by omega)))
    have hc : copyA sc (hpush h (oI 2 (2 * N + 2) (fun _ => 0))) (aD q) (nI 0) h.1.length (nI 0) (nI N) = some (hset (hpush h (oI 2 (2 * N + 2) (fun _ => 0))) h.1.length (oI 2 (2 * N + 2) (cpy b (fun _ => 0) 0 0 N))) := by
      unfold copyA oget
      simp only [a2, a3]
      rw [nI_clamp (show N < 2 ^ 31 by omega), if_pos]
      · rfl
      · refine ⟨trivial, Or.inl trivial, by decide, by decide, nI_pos (by omega), by show 0 + N ≤ N; omega, by show 0 + N ≤ 2 * N + 2; omega, ?_⟩
        rw [if_neg (by decide), List.all_eq_true]
        intro i hi
        rw [List.mem_range] at hi
        rw [decide_eq_true_eq]
        show narK 2 (b (0 + i)) = b (0 + i)
        rw [Nat.zero_add]
        exact g8 i hi
    have e2 : Call sc n_J7_copyOf_9075b [aD q, aI (nI (2 * N + 2))] h = some (.inl (some (aD h.1.length)), hset (hpush h (oI 2 (2 * N + 2) (fun _ => 0))) h.1.length (oI 2 (2 * N + 2) (cpy b (fun _ => 0) 0 0 N))) := by
      simp only [c0_J7_copyOf_9075b, e_J7_copyOf_9075b_0, e_J7_copyOf_9075b_3, e_J7_copyOf_9075b_14, e_J7_copyOf_9075b_17, e_J7_copyOf_9075b_24, e_J7_copyOf_9075b_31, hl, bO_some, bF_I, bF_D, bF_C, bC_v, pk_mul, nI_add, Option.toList, List.cons_append, List.nil_append, hne, not_false_eq_true, if_true, nI_clamp (show 2 * N + 2 < 2 ^ 31 by omega), bI_t hN', hl2, hmin, hc]
    have b1 : hget (hset (hpush h (oI 2 (2 * N + 2) (fun _ => 0))) h.1.length (oI 2 (2 * N + 2) (cpy b (fun _ => 0) 0 0 N))) p = some (oO 1 [aD q, aI 0, aI (zI ml), aI (nI m)]) := by
      rw [hget_ne (by omega)]
      exact a1
    have b3 : hget (hset (hpush h (oI 2 (2 * N + 2) (fun _ => 0))) h.1.length (oI 2 (2 * N + 2) (cpy b (fun _ => 0) 0 0 N))) h.1.length = some (oI 2 (2 * N + 2) (cpy b (fun _ => 0) 0 0 N)) := hget_set a3
    have e3 : putF (hset (hpush h (oI 2 (2 * N + 2) (fun _ => 0))) h.1.length (oI 2 (2 * N + 2) (cpy b (fun _ => 0) 0 0 N))) p 1 0 3 (aD h.1.length) = some (hset (hset (hpush h (oI 2 (2 * N + 2) (fun _ => 0))) h.1.length (oI 2 (2 * N + 2) (cpy b (fun _ => 0) 0 0 N))) p (oO 1 [aD h.1.length, aI 0, aI (zI ml), aI (nI m)])) := by
      rw [putF_D b1 (show 0 < 4 by decide) rfl]
      rfl
    have f1' : getF sc h (aD p) 1 1 = some (aI 0) := f1
    have fr1 := fr_set (o := oI 2 (2 * N + 2) (cpy b (fun _ => 0) 0 0 N)) a3 rfl
    have fr2 := fr_set (o := oO 1 [aD h.1.length, aI 0, aI (zI ml), aI (nI m)]) b1 rfl
    refine ⟨_, h.1.length, 2 * N + 2, ?_, ⟨ml, cpy b (fun _ => 0) 0 0 N, hget_set b1, ?_, hp, by omega, by omega, by omega, ?_, ?_⟩, by omega, ?_, Or.inr (Nat.le_refl _)⟩
    · simp only [c0_J5_ensureCapacityInternal_d00df, e_J5_ensureCapacityInternal_d00df_0, e_J5_ensureCapacityInternal_d00df_4, e_J5_ensureCapacityInternal_d00df_5, e_J5_ensureCapacityInternal_d00df_9, e_J5_ensureCapacityInternal_d00df_17, e_J5_ensureCapacityInternal_d00df_22, e_J5_ensureCapacityInternal_d00df_27, e_J5_ensureCapacityInternal_d00df_31, e_J5_ensureCapacityInternal_d00df_35, e_J5_ensureCapacityInternal_d00df_38, f0, f1, hl, bO_some, bF_I, bF_D, bF_C, bC_v, pk_mul, nI_add, Option.toList, List.cons_append, List.nil_append, sh0r, sh0l, h9, if_false, bI_t (show rOK sc h (aD p) 1 = true from rOK_D g1), e1, e2, e3]
    · rw [hget_ne (by omega)]
      exact b3
    · intro i hi
      rw [cpy_eq, if_pos (by omega), Nat.zero_add, Nat.sub_zero]
      exact g7 i hi
    · intro i hi
      rw [cpy_eq]
      split
      · rw [Nat.zero_add, Nat.sub_zero]
        exact g8 i (by omega)
      · rfl
    · have l1 := fr1.2.1
      have l2 := fr2.2.1
      have c1 := fr1.2.2.2
      have c2 := fr2.2.2.2
      rw [push_len] at l1
      rw [push_cost] at c1
      have hos : osize (oI 2 (2 * N + 2) (fun _ => 0)) = 2 * N + 2 := rfl
      rw [hos] at c1
      refine ⟨rfl, by omega, by omega, ?_, by omega, by omega⟩
      intro i hi hs
      have hip : ¬ i = p := fun z => hs (Or.inl z)
      rw [hget_ne hip, hget_ne (by omega), hget_push hi]
end
