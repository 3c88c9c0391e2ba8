/-! PURE 20: the constant strings -/
def wS (k : Nat) : Nat := ([15, 19, 23, 27, 31, 33, 37, 41, 45, 49, 51, 55] : List Nat).getD k 0
def fS (k : Nat) : Nat := ([17, 21, 25, 29, 29, 35, 39, 43, 47, 47, 53, 17] : List Nat).getD k 0
def wL (k : Nat) : List Int32 := ([[110, 111, 112], [115, 101, 116], [99, 111, 112, 121], [97, 100, 100], [115, 117, 98], [108, 111, 97, 100], [115, 116, 111, 114, 101], [111, 117, 116], [101, 113, 117, 97, 108], [108, 101, 115, 115], [106, 117, 109, 112], [104, 97, 108, 116]] : List (List Int32)).getD k []
def fL (k : Nat) : List Int32 := ([[45, 45, 45], [119, 45, 110], [119, 114, 45], [119, 114, 114], [119, 114, 114], [119, 114, 111], [114, 114, 111], [114, 45, 45], [114, 114, 116], [114, 114, 116], [45, 45, 116], [45, 45, 45]] : List (List Int32)).getD k []
/-- the constant s is the string w -/
def KS (sc : SC) (s : Nat) (w : List Int32) : Prop := kobj sc s = some (oO 101 [aC (s + 1), aI 0]) ∧ kobj sc (s + 1) = some (oI 2 w.length (fun i => w.getD i 0)) ∧ (w.length = 3 ∨ w.length = 4 ∨ w.length = 5) ∧ ∀ c, c ∈ w → (((c &&& (nI 255)).toUInt32 % 65536).toInt32) = c ∧ retK (some FieldType.char) c = true
theorem KS_w {sc : SC} {k : Nat} (hk : k < 12) : KS sc (wS k) (wL k) := by
  rcases twelve hk with rfl | rfl | rfl | rfl | rfl | rfl | rfl | rfl | rfl | rfl | rfl | rfl <;> exact ⟨rfl, rfl, by decide, by decide⟩
theorem KS_f {sc : SC} {k : Nat} (hk : k < 12) : KS sc (fS k) (fL k) := by
  rcases twelve hk with rfl | rfl | rfl | rfl | rfl | rfl | rfl | rfl | rfl | rfl | rfl | rfl <;> exact ⟨rfl, rfl, by decide, by decide⟩
theorem kf_word {sc : SC} {h : AH} {k : Nat} (hk : k < 12) : getF sc h (aC (k + 1)) 100 0 = some (aC (wS k)) := by
  rcases twelve hk with rfl | rfl | rfl | rfl | rfl | rfl | rfl | rfl | rfl | rfl | rfl | rfl <;> rfl
theorem kf_form {sc : SC} {h : AH} {k : Nat} (hk : k < 12) : getF sc h (aC (k + 1)) 100 1 = some (aC (fS k)) := by
  rcases twelve hk with rfl | rfl | rfl | rfl | rfl | rfl | rfl | rfl | rfl | rfl | rfl | rfl <;> rfl
theorem fL_len {k : Nat} (hk : k < 12) : (fL k).length = 3 := by
  rcases twelve hk with rfl | rfl | rfl | rfl | rfl | rfl | rfl | rfl | rfl | rfl | rfl | rfl <;> rfl
section
variable {sc : SC} {h : AH} {s i k : Nat} {w : List Int32}
theorem KS.f0 (g : KS sc s w) : getF sc h (aC s) 101 0 = some (aC (s + 1)) := by
  unfold getF oget
  simp only [g.1]
  rw [if_pos trivial]
  rfl
theorem KS.f1 (g : KS sc s w) : getF sc h (aC s) 101 1 = some (aI 0) := by
  unfold getF oget
  simp only [g.1]
  rw [if_pos trivial]
  rfl
theorem KS.ok (g : KS sc s w) : rOK sc h (aC s) 101 = true := by
  unfold rOK oget
  simp only [g.1]
  exact beq_self_eq_true 101
theorem KS.len (g : KS sc s w) : lenA sc h (aC (s + 1)) = some w.length := by
  unfold lenA oget
  simp only [g.2.1]
theorem KS.lt (g : KS sc s w) : w.length ≤ 5 := by
  have := g.2.2.1
  omega
theorem KS.ld (g : KS sc s w) (hi : i < w.length) : ldI sc h (fun t => t == 2 || t == 3) (aC (s + 1)) (nI i) = some (w.getD i 0) := by
  have := g.lt
  unfold ldI oget
  simp only [g.2.1]
  rw [if_pos ⟨rfl, inb_nI hi (by omega)⟩, nI_clamp (by omega)]
theorem KS.ch (g : KS sc s w) (hi : i < w.length) : ((((w.getD i 0) &&& (nI 255)).toUInt32 % 65536).toInt32) = w.getD i 0 ∧ retK (some FieldType.char) (w.getD i 0) = true := by
  have h1 : w.getD i 0 ∈ w := by
    rw [List.getD_eq_getElem?_getD, List.getElem?_eq_getElem hi]
    exact List.getElem_mem hi
  exact g.2.2.2 _ h1
theorem c_J0_coder (g : KS sc s w) : Call sc n_J0_coder_7d493 [aC s] h = some (.inl (some (aI 0)), h) := by
  simp only [c0_J0_coder_7d493, e_J0_coder_7d493_0, e_J0_coder_7d493_6, e_J0_coder_7d493_10, e_J0_coder_7d493_13, e_J0_coder_7d493_14, g.f1, bO_some, bF_I, bF_D, bF_C, bC_v, pk_mul, nI_add, Option.toList, List.cons_append, List.nil_append, show ¬ nI 1 = 0 from by decide, if_false]
  exact bI_t rfl _
theorem c_J0_isLatin1 (g : KS sc s w) : Call sc n_J0_isLatin1_aae02 [aC s] h = some (.inl (some (aI (nI 1))), h) := by
  simp only [c0_J0_isLatin1_aae02, e_J0_isLatin1_aae02_0, e_J0_isLatin1_aae02_6, e_J0_isLatin1_aae02_10, e_J0_isLatin1_aae02_13, e_J0_isLatin1_aae02_17, e_J0_isLatin1_aae02_18, g.f1, bO_some, bF_I, bF_D, bF_C, bC_v, pk_mul, nI_add, Option.toList, List.cons_append, List.nil_append, show ¬ nI 1 = 0 from by decide, zI_0, if_true, if_false, eq_self, not_true_eq_false, not_false_eq_true]
  exact bI_t rfl _
theorem c_J0_length (g : KS sc s w) : Call sc n_J0_length_8abf5 [aC s] h = some (.inl (some (aI (nI w.length))), h) := by
  simp only [c0_J0_length_8abf5, e_J0_length_8abf5_0, e_J0_length_8abf5_4, e_J0_length_8abf5_5, e_J0_length_8abf5_9, g.f0, g.len, bI_t g.ok, c_J0_coder g, bO_some, bF_I, bF_D, bF_C, bC_v, pk_mul, nI_add, Option.toList, List.cons_append, List.nil_append]
  have h1 : nI w.length >>> ((0 : Int32) &&& 31) = nI w.length := by
    rcases g.2.2.1 with h2 | h2 | h2 <;> rw [h2] <;> decide
  rw [h1]
theorem c_checkIndex {n : Nat} (hi : i < n) (hn : n < 2 ^ 31) : Call sc n_J0_checkIndex_df160 [aI (nI i), aI (nI n)] h = some (.inl none, h) := by
  have h1 : ¬ nI i < 0 := nI_pos (by omega)
  have h2 : nI i < nI n := Int32.not_le.mp (nI_ge hi hn)
  simp only [c0_J0_checkIndex_df160, e_J0_checkIndex_df160_0, e_J0_checkIndex_df160_8, c0_J3_checkIndex_8e157, e_J3_checkIndex_8e157_0, e_J3_checkIndex_8e157_4, e_J3_checkIndex_8e157_9, e_J3_checkIndex_8e157_16, bO_some, bF_I, bF_D, bF_C, bC_v, pk_mul, nI_add, Option.toList, List.cons_append, List.nil_append, h1, h2, zI_0, if_true, if_false, eq_self, not_true_eq_false, not_false_eq_true]
theorem c_J0_charAt (g : KS sc s w) (hi : i < w.length) : Call sc n_J0_charAt_5068e [aC s, aI (nI i)] h = some (.inl (some (aI (w.getD i 0))), h) := by
  have h1 := g.lt
  have h2 := g.ch hi
  have e1 : Call sc n_J1_charAt_3b067 [aC (s + 1), aI (nI i)] h = some (.inl (some (aI (w.getD i 0))), h) := by
    simp only [c0_J1_charAt_3b067, e_J1_charAt_3b067_0, e_J1_charAt_3b067_2, e_J1_charAt_3b067_3, e_J1_charAt_3b067_6, e_J1_charAt_3b067_7, e_J1_charAt_3b067_9, g.len, g.ld hi, c_checkIndex hi (show w.length < 2 ^ 31 by omega), bO_some, bF_I, bF_D, bF_C, bC_v, pk_mul, nI_add, Option.toList, List.cons_append, List.nil_append, bI_t (show aObj (aC (s + 1)) = true from rfl), h2.1, bI_t h2.2]
  simp only [c0_J0_charAt_5068e, e_J0_charAt_5068e_0, e_J0_charAt_5068e_4, e_J0_charAt_5068e_7, e_J0_charAt_5068e_11, e_J0_charAt_5068e_15, e_J0_charAt_5068e_16, bI_t g.ok, c_J0_isLatin1 g, g.f0, e1, bO_some, bF_I, bF_D, bF_C, bC_v, pk_mul, nI_add, Option.toList, List.cons_append, List.nil_append, show ¬ nI 1 = 0 from by decide, if_false, bI_t h2.2]
theorem c_X4_sign (hk : k < 12) (hi : i < 3) : Call sc n_X4_sign [aC (k + 1), aI (nI i)] h = some (.inl (some (aI ((fL k).getD i 0))), h) := by
  have g := KS_f (sc := sc) hk
  have hl := fL_len hk
  simp only [c0_X4_sign, e_X4_sign_0, e_X4_sign_4, e_X4_sign_8, kf_form hk, bI_t g.ok, c_J0_charAt g (show i < (fL k).length by omega), bO_some, bF_I, bF_D, bF_C, bC_v, pk_mul, nI_add, Option.toList, List.cons_append, List.nil_append, bI_t (g.ch (show i < (fL k).length by omega)).2]
end
