/-! PURE 85: the cases of the law -/
def Win (r : Option Res) : Prop := ∃ h1, r = some (.inl (some (aI (nI 1))), h1) ∧ costC h1 ≤ 603072 ∧ costS h1 ≤ 7178346
theorem lcmp (x : Int64) : (x < x) = False := eq_false Int64.lt_irrefl
section
variable {sc : SC} {h : AH} {i j L : Nat} {xs : Nat → Int32}
theorem case_feed (hc : ∀ h' t, t < L → ldI sc h' (fun t => t == 0) (aC 0) (nI t) = some (xs t)) (hj : j + 4 ≤ L) (g : INV h i) (hN : ∀ h' v6 v7 v8 dl, INV h' (i + 1) → Win (Run sc n_L_law 1606 [aC 0, aD 0, aD 51, aD 71, aD 72, aI (nI j), v6, v7, v8] dl [] h')) (v6 v7 v8 : AV) (dl : DL) : Win (Run sc n_L_law 168 [aC 0, aD 0, aD 51, aD 71, aD 72, aI (nI j), v6, v7, v8] dl [] h) := by
  have t1 := fun h' => hc h' (j + 1) (by omega)
  have t2 := fun h' => hc h' (j + 2) (by omega)
  have t3 := fun h' => hc h' (j + 3) (by omega)
  have z0 : (nI 0 = 0) = True := eq_true (by decide)
  obtain ⟨k, b, h1, h2, q1, q2, q3, q4, q5, q6, q7, q8⟩ := J_feed (sc := sc) g (((xs (j + 1)).toUInt32 % 65536).toInt32)
  dsimp only at q4
  by_cases hk : k = 0
  · subst hk
    have l := q7 rfl
    simp only [e_L_law_168, e_L_law_175, e_L_law_180, e_L_law_189, e_L_law_193, e_L_law_199, e_L_law_204, e_L_law_206, e_L_law_211, e_L_law_214, e_L_law_221, e_L_law_223, bO_some, bF_I, bF_D, bF_C, bC_v, pk_mul, nI_add, Option.toList, List.cons_append, List.nil_append, t1, t2, t3, q1, bI_t q3, q4, bI_t q5, q6, l, z0, lcmp, zI_0, if_true, if_false, eq_self, not_true_eq_false, not_false_eq_true, reduceCtorEq]
    exact hN _ _ _ _ _ q8
  · have hne : ¬ nI k = 0 := nI_n0 (by omega) (by omega)
    simp only [e_L_law_168, e_L_law_175, e_L_law_180, e_L_law_189, e_L_law_193, e_L_law_199, e_L_law_204, e_L_law_206, e_L_law_211, e_L_law_214, e_L_law_221, e_L_law_223, bO_some, bF_I, bF_D, bF_C, bC_v, pk_mul, nI_add, Option.toList, List.cons_append, List.nil_append, t1, t2, t3, q1, bI_t q3, q4, bI_t q5, q6, hne, zI_0, if_true, if_false, eq_self, not_true_eq_false, not_false_eq_true, reduceCtorEq]
    exact hN _ _ _ _ _ q8
theorem case_parse (hc : ∀ h' t, t < L → ldI sc h' (fun t => t == 0) (aC 0) (nI t) = some (xs t)) (hj : j + 4 ≤ L) (g : INV h i) (hN : ∀ h' v6 v7 v8 dl, INV h' (i + 1) → Win (Run sc n_L_law 1606 [aC 0, aD 0, aD 51, aD 71, aD 72, aI (nI j), v6, v7, v8] dl [] h')) (v6 v7 v8 : AV) (dl : DL) : Win (Run sc n_L_law 226 [aC 0, aD 0, aD 51, aD 71, aD 72, aI (nI j), v6, v7, v8] dl [] h) := by
  have t1 := fun h' => hc h' (j + 1) (by omega)
  have t2 := fun h' => hc h' (j + 2) (by omega)
  have t3 := fun h' => hc h' (j + 3) (by omega)
  have z0 : (nI 0 = 0) = True := eq_true (by decide)
  obtain ⟨k, b, h1, h2, q1, q2, q3, q4, q5, q6, q7, q8⟩ := J_parse (sc := sc) g 
  dsimp only at q4
  by_cases hk : k = 0
  · subst hk
    have l := q7 rfl
    simp only [e_L_law_226, e_L_law_231, e_L_law_237, e_L_law_243, e_L_law_248, e_L_law_250, e_L_law_255, e_L_law_258, e_L_law_265, e_L_law_267, bO_some, bF_I, bF_D, bF_C, bC_v, pk_mul, nI_add, Option.toList, List.cons_append, List.nil_append, t1, t2, t3, q1, bI_t q3, q4, bI_t q5, q6, l, z0, lcmp, zI_0, if_true, if_false, eq_self, not_true_eq_false, not_false_eq_true, reduceCtorEq]
    exact hN _ _ _ _ _ q8
  · have hne : ¬ nI k = 0 := nI_n0 (by omega) (by omega)
    simp only [e_L_law_226, e_L_law_231, e_L_law_237, e_L_law_243, e_L_law_248, e_L_law_250, e_L_law_255, e_L_law_258, e_L_law_265, e_L_law_267, bO_some, bF_I, bF_D, bF_C, bC_v, pk_mul, nI_add, Option.toList, List.cons_append, List.nil_append, t1, t2, t3, q1, bI_t q3, q4, bI_t q5, q6, hne, zI_0, if_true, if_false, eq_self, not_true_eq_false, not_false_eq_true, reduceCtorEq]
    exact hN _ _ _ _ _ q8
theorem case_clear (hc : ∀ h' t, t < L → ldI sc h' (fun t => t == 0) (aC 0) (nI t) = some (xs t)) (hj : j + 4 ≤ L) (g : INV h i) (hN : ∀ h' v6 v7 v8 dl, INV h' (i + 1) → Win (Run sc n_L_law 1606 [aC 0, aD 0, aD 51, aD 71, aD 72, aI (nI j), v6, v7, v8] dl [] h')) (v6 v7 v8 : AV) (dl : DL) : Win (Run sc n_L_law 270 [aC 0, aD 0, aD 51, aD 71, aD 72, aI (nI j), v6, v7, v8] dl [] h) := by
  obtain ⟨a, h1, h2, q1, q2, q3, q4⟩ := J_clear (sc := sc) g
  dsimp only at q3
  have ok0 := g.ok (sc := sc)
  simp only [e_L_law_270, e_L_law_274, e_L_law_278, e_L_law_281, bO_some, bF_I, bF_D, bF_C, bC_v, pk_mul, nI_add, Option.toList, List.cons_append, List.nil_append, bI_t ok0, q1, bI_t q2, q3, zI_0, if_true, if_false, eq_self, not_true_eq_false, not_false_eq_true, reduceCtorEq]
  exact hN _ _ _ _ _ q4
theorem case_instructions (hc : ∀ h' t, t < L → ldI sc h' (fun t => t == 0) (aC 0) (nI t) = some (xs t)) (hj : j + 4 ≤ L) (g : INV h i) (hN : ∀ h' v6 v7 v8 dl, INV h' (i + 1) → Win (Run sc n_L_law 1606 [aC 0, aD 0, aD 51, aD 71, aD 72, aI (nI j), v6, v7, v8] dl [] h')) (v6 v7 v8 : AV) (dl : DL) : Win (Run sc n_L_law 283 [aC 0, aD 0, aD 51, aD 71, aD 72, aI (nI j), v6, v7, v8] dl [] h) := by
  obtain ⟨a, h1, h2, q1, q2, q3, q4⟩ := J_instructions (sc := sc) g
  dsimp only at q3
  have ok0 := g.ok (sc := sc)
  simp only [e_L_law_283, e_L_law_287, e_L_law_291, e_L_law_294, bO_some, bF_I, bF_D, bF_C, bC_v, pk_mul, nI_add, Option.toList, List.cons_append, List.nil_append, bI_t ok0, q1, bI_t q2, q3, zI_0, if_true, if_false, eq_self, not_true_eq_false, not_false_eq_true, reduceCtorEq]
  exact hN _ _ _ _ _ q4
theorem case_instruction (hc : ∀ h' t, t < L → ldI sc h' (fun t => t == 0) (aC 0) (nI t) = some (xs t)) (hj : j + 4 ≤ L) (g : INV h i) (hN : ∀ h' v6 v7 v8 dl, INV h' (i + 1) → Win (Run sc n_L_law 1606 [aC 0, aD 0, aD 51, aD 71, aD 72, aI (nI j), v6, v7, v8] dl [] h')) (v6 v7 v8 : AV) (dl : DL) : Win (Run sc n_L_law 296 [aC 0, aD 0, aD 51, aD 71, aD 72, aI (nI j), v6, v7, v8] dl [] h) := by
  have t1 := fun h' => hc h' (j + 1) (by omega)
  have t2 := fun h' => hc h' (j + 2) (by omega)
  have t3 := fun h' => hc h' (j + 3) (by omega)
  have z0 : (nI 0 = 0) = True := eq_true (by decide)
  obtain ⟨k, b, h1, h2, q1, q2, q3, q4, q5, q6, q7, q8⟩ := J_instruction (sc := sc) g (xs (j + 1)) (xs (j + 2))
  dsimp only at q4
  by_cases hk : k = 0
  · subst hk
    have l := q7 rfl
    simp only [e_L_law_296, e_L_law_303, e_L_law_309, e_L_law_313, e_L_law_322, e_L_law_328, e_L_law_331, e_L_law_337, e_L_law_342, e_L_law_344, e_L_law_349, e_L_law_352, e_L_law_359, e_L_law_361, bO_some, bF_I, bF_D, bF_C, bC_v, pk_mul, nI_add, Option.toList, List.cons_append, List.nil_append, t1, t2, t3, q1, bI_t q3, q4, bI_t q5, q6, l, z0, lcmp, zI_0, if_true, if_false, eq_self, not_true_eq_false, not_false_eq_true, reduceCtorEq]
    exact hN _ _ _ _ _ q8
  · have hne : ¬ nI k = 0 := nI_n0 (by omega) (by omega)
    simp only [e_L_law_296, e_L_law_303, e_L_law_309, e_L_law_313, e_L_law_322, e_L_law_328, e_L_law_331, e_L_law_337, e_L_law_342, e_L_law_344, e_L_law_349, e_L_law_352, e_L_law_359, e_L_law_361, bO_some, bF_I, bF_D, bF_C, bC_v, pk_mul, nI_add, Option.toList, List.cons_append, List.nil_append, t1, t2, t3, q1, bI_t q3, q4, bI_t q5, q6, hne, zI_0, if_true, if_false, eq_self, not_true_eq_false, not_false_eq_true, reduceCtorEq]
    exact hN _ _ _ _ _ q8
theorem case_expand (hc : ∀ h' t, t < L → ldI sc h' (fun t => t == 0) (aC 0) (nI t) = some (xs t)) (hj : j + 4 ≤ L) (g : INV h i) (hN : ∀ h' v6 v7 v8 dl, INV h' (i + 1) → Win (Run sc n_L_law 1606 [aC 0, aD 0, aD 51, aD 71, aD 72, aI (nI j), v6, v7, v8] dl [] h')) (v6 v7 v8 : AV) (dl : DL) : Win (Run sc n_L_law 364 [aC 0, aD 0, aD 51, aD 71, aD 72, aI (nI j), v6, v7, v8] dl [] h) := by
  obtain ⟨a, h1, h2, q1, q2, q3, q4⟩ := J_expand (sc := sc) g
  dsimp only at q3
  have ok0 := g.ok (sc := sc)
  simp only [e_L_law_364, e_L_law_368, e_L_law_372, e_L_law_375, bO_some, bF_I, bF_D, bF_C, bC_v, pk_mul, nI_add, Option.toList, List.cons_append, List.nil_append, bI_t ok0, q1, bI_t q2, q3, zI_0, if_true, if_false, eq_self, not_true_eq_false, not_false_eq_true, reduceCtorEq]
  exact hN _ _ _ _ _ q4
theorem case_entries (hc : ∀ h' t, t < L → ldI sc h' (fun t => t == 0) (aC 0) (nI t) = some (xs t)) (hj : j + 4 ≤ L) (g : INV h i) (hN : ∀ h' v6 v7 v8 dl, INV h' (i + 1) → Win (Run sc n_L_law 1606 [aC 0, aD 0, aD 51, aD 71, aD 72, aI (nI j), v6, v7, v8] dl [] h')) (v6 v7 v8 : AV) (dl : DL) : Win (Run sc n_L_law 377 [aC 0, aD 0, aD 51, aD 71, aD 72, aI (nI j), v6, v7, v8] dl [] h) := by
  obtain ⟨a, h1, h2, q1, q2, q3, q4⟩ := J_entries (sc := sc) g
  dsimp only at q3
  have ok0 := g.ok (sc := sc)
  simp only [e_L_law_377, e_L_law_381, e_L_law_385, e_L_law_388, bO_some, bF_I, bF_D, bF_C, bC_v, pk_mul, nI_add, Option.toList, List.cons_append, List.nil_append, bI_t ok0, q1, bI_t q2, q3, zI_0, if_true, if_false, eq_self, not_true_eq_false, not_false_eq_true, reduceCtorEq]
  exact hN _ _ _ _ _ q4
theorem case_entry (hc : ∀ h' t, t < L → ldI sc h' (fun t => t == 0) (aC 0) (nI t) = some (xs t)) (hj : j + 4 ≤ L) (g : INV h i) (hN : ∀ h' v6 v7 v8 dl, INV h' (i + 1) → Win (Run sc n_L_law 1606 [aC 0, aD 0, aD 51, aD 71, aD 72, aI (nI j), v6, v7, v8] dl [] h')) (v6 v7 v8 : AV) (dl : DL) : Win (Run sc n_L_law 390 [aC 0, aD 0, aD 51, aD 71, aD 72, aI (nI j), v6, v7, v8] dl [] h) := by
  have t1 := fun h' => hc h' (j + 1) (by omega)
  have t2 := fun h' => hc h' (j + 2) (by omega)
  have t3 := fun h' => hc h' (j + 3) (by omega)
  have z0 : (nI 0 = 0) = True := eq_true (by decide)
  obtain ⟨k, b, h1, h2, q1, q2, q3, q4, q5, q6, q7, q8⟩ := J_entry (sc := sc) g (xs (j + 1)) (xs (j + 2))
  dsimp only at q4
  by_cases hk : k = 0
  · subst hk
    have l := q7 rfl
    simp only [e_L_law_390, e_L_law_397, e_L_law_403, e_L_law_407, e_L_law_416, e_L_law_422, e_L_law_425, e_L_law_431, e_L_law_436, e_L_law_438, e_L_law_443, e_L_law_446, e_L_law_453, e_L_law_455, bO_some, bF_I, bF_D, bF_C, bC_v, pk_mul, nI_add, Option.toList, List.cons_append, List.nil_append, t1, t2, t3, q1, bI_t q3, q4, bI_t q5, q6, l, z0, lcmp, zI_0, if_true, if_false, eq_self, not_true_eq_false, not_false_eq_true, reduceCtorEq]
    exact hN _ _ _ _ _ q8
  · have hne : ¬ nI k = 0 := nI_n0 (by omega) (by omega)
    simp only [e_L_law_390, e_L_law_397, e_L_law_403, e_L_law_407, e_L_law_416, e_L_law_422, e_L_law_425, e_L_law_431, e_L_law_436, e_L_law_438, e_L_law_443, e_L_law_446, e_L_law_453, e_L_law_455, bO_some, bF_I, bF_D, bF_C, bC_v, pk_mul, nI_add, Option.toList, List.cons_append, List.nil_append, t1, t2, t3, q1, bI_t q3, q4, bI_t q5, q6, hne, zI_0, if_true, if_false, eq_self, not_true_eq_false, not_false_eq_true, reduceCtorEq]
    exact hN _ _ _ _ _ q8
theorem case_count (hc : ∀ h' t, t < L → ldI sc h' (fun t => t == 0) (aC 0) (nI t) = some (xs t)) (hj : j + 4 ≤ L) (g : INV h i) (hN : ∀ h' v6 v7 v8 dl, INV h' (i + 1) → Win (Run sc n_L_law 1606 [aC 0, aD 0, aD 51, aD 71, aD 72, aI (nI j), v6, v7, v8] dl [] h')) (v6 v7 v8 : AV) (dl : DL) : Win (Run sc n_L_law 458 [aC 0, aD 0, aD 51, aD 71, aD 72, aI (nI j), v6, v7, v8] dl [] h) := by
  have t1 := fun h' => hc h' (j + 1) (by omega)
  have t2 := fun h' => hc h' (j + 2) (by omega)
  have t3 := fun h' => hc h' (j + 3) (by omega)
  have z0 : (nI 0 = 0) = True := eq_true (by decide)
  obtain ⟨k, b, h1, h2, q1, q2, q3, q4, q5, q6, q7, q8⟩ := J_count (sc := sc) g (xs (j + 1))
  dsimp only at q4
  by_cases hk : k = 0
  · subst hk
    have l := q7 rfl
    simp only [e_L_law_458, e_L_law_465, e_L_law_469, e_L_law_478, e_L_law_481, e_L_law_487, e_L_law_492, e_L_law_494, e_L_law_499, e_L_law_502, e_L_law_509, e_L_law_511, bO_some, bF_I, bF_D, bF_C, bC_v, pk_mul, nI_add, Option.toList, List.cons_append, List.nil_append, t1, t2, t3, q1, bI_t q3, q4, bI_t q5, q6, l, z0, lcmp, zI_0, if_true, if_false, eq_self, not_true_eq_false, not_false_eq_true, reduceCtorEq]
    exact hN _ _ _ _ _ q8
  · have hne : ¬ nI k = 0 := nI_n0 (by omega) (by omega)
    simp only [e_L_law_458, e_L_law_465, e_L_law_469, e_L_law_478, e_L_law_481, e_L_law_487, e_L_law_492, e_L_law_494, e_L_law_499, e_L_law_502, e_L_law_509, e_L_law_511, bO_some, bF_I, bF_D, bF_C, bC_v, pk_mul, nI_add, Option.toList, List.cons_append, List.nil_append, t1, t2, t3, q1, bI_t q3, q4, bI_t q5, q6, hne, zI_0, if_true, if_false, eq_self, not_true_eq_false, not_false_eq_true, reduceCtorEq]
    exact hN _ _ _ _ _ q8
theorem case_live (hc : ∀ h' t, t < L → ldI sc h' (fun t => t == 0) (aC 0) (nI t) = some (xs t)) (hj : j + 4 ≤ L) (g : INV h i) (hN : ∀ h' v6 v7 v8 dl, INV h' (i + 1) → Win (Run sc n_L_law 1606 [aC 0, aD 0, aD 51, aD 71, aD 72, aI (nI j), v6, v7, v8] dl [] h')) (v6 v7 v8 : AV) (dl : DL) : Win (Run sc n_L_law 514 [aC 0, aD 0, aD 51, aD 71, aD 72, aI (nI j), v6, v7, v8] dl [] h) := by
  have t1 := fun h' => hc h' (j + 1) (by omega)
  have t2 := fun h' => hc h' (j + 2) (by omega)
  have t3 := fun h' => hc h' (j + 3) (by omega)
  have z0 : (nI 0 = 0) = True := eq_true (by decide)
  obtain ⟨k, b, h1, h2, q1, q2, q3, q4, q5, q6, q7, q8⟩ := J_live (sc := sc) g (xs (j + 1))
  dsimp only at q4
  by_cases hk : k = 0
  · subst hk
    have l := q7 rfl
    simp only [e_L_law_514, e_L_law_521, e_L_law_525, e_L_law_534, e_L_law_537, e_L_law_543, e_L_law_548, e_L_law_550, e_L_law_555, e_L_law_558, e_L_law_565, e_L_law_567, bO_some, bF_I, bF_D, bF_C, bC_v, pk_mul, nI_add, Option.toList, List.cons_append, List.nil_append, t1, t2, t3, q1, bI_t q3, q4, bI_t q5, q6, l, z0, lcmp, zI_0, if_true, if_false, eq_self, not_true_eq_false, not_false_eq_true, reduceCtorEq]
    exact hN _ _ _ _ _ q8
  · have hne : ¬ nI k = 0 := nI_n0 (by omega) (by omega)
    simp only [e_L_law_514, e_L_law_521, e_L_law_525, e_L_law_534, e_L_law_537, e_L_law_543, e_L_law_548, e_L_law_550, e_L_law_555, e_L_law_558, e_L_law_565, e_L_law_567, bO_some, bF_I, bF_D, bF_C, bC_v, pk_mul, nI_add, Option.toList, List.cons_append, List.nil_append, t1, t2, t3, q1, bI_t q3, q4, bI_t q5, q6, hne, zI_0, if_true, if_false, eq_self, not_true_eq_false, not_false_eq_true, reduceCtorEq]
    exact hN _ _ _ _ _ q8
theorem case_isIndependent (hc : ∀ h' t, t < L → ldI sc h' (fun t => t == 0) (aC 0) (nI t) = some (xs t)) (hj : j + 4 ≤ L) (g : INV h i) (hN : ∀ h' v6 v7 v8 dl, INV h' (i + 1) → Win (Run sc n_L_law 1606 [aC 0, aD 0, aD 51, aD 71, aD 72, aI (nI j), v6, v7, v8] dl [] h')) (v6 v7 v8 : AV) (dl : DL) : Win (Run sc n_L_law 570 [aC 0, aD 0, aD 51, aD 71, aD 72, aI (nI j), v6, v7, v8] dl [] h) := by
  have t1 := fun h' => hc h' (j + 1) (by omega)
  have t2 := fun h' => hc h' (j + 2) (by omega)
  have t3 := fun h' => hc h' (j + 3) (by omega)
  have z0 : (nI 0 = 0) = True := eq_true (by decide)
  obtain ⟨k, b, h1, h2, q1, q2, q3, q4, q5, q6, q7, q8⟩ := J_isIndependent (sc := sc) g (xs (j + 1)) (xs (j + 2))
  dsimp only at q4
  by_cases hk : k = 0
  · subst hk
    have l := q7 rfl
    cases b
    · simp only [e_L_law_570, e_L_law_577, e_L_law_583, e_L_law_587, e_L_law_596, e_L_law_602, e_L_law_605, e_L_law_611, e_L_law_616, e_L_law_618, e_L_law_623, e_L_law_626, e_L_law_631, e_L_law_635, e_L_law_636, e_L_law_640, e_L_law_642, bO_some, bF_I, bF_D, bF_C, bC_v, pk_mul, nI_add, Option.toList, List.cons_append, List.nil_append, t1, t2, t3, q1, bI_t q3, q4, bI_t q5, q6, l, z0, lcmp, zI_0, if_true, if_false, eq_self, not_true_eq_false, not_false_eq_true, reduceCtorEq]
      exact hN _ _ _ _ _ q8
    · simp only [e_L_law_570, e_L_law_577, e_L_law_583, e_L_law_587, e_L_law_596, e_L_law_602, e_L_law_605, e_L_law_611, e_L_law_616, e_L_law_618, e_L_law_623, e_L_law_626, e_L_law_631, e_L_law_635, e_L_law_636, e_L_law_640, e_L_law_642, bO_some, bF_I, bF_D, bF_C, bC_v, pk_mul, nI_add, Option.toList, List.cons_append, List.nil_append, t1, t2, t3, q1, bI_t q3, q4, bI_t q5, q6, l, z0, lcmp, zI_0, if_true, if_false, eq_self, not_true_eq_false, not_false_eq_true, reduceCtorEq]
      exact hN _ _ _ _ _ q8
  · have hne : ¬ nI k = 0 := nI_n0 (by omega) (by omega)
    simp only [e_L_law_570, e_L_law_577, e_L_law_583, e_L_law_587, e_L_law_596, e_L_law_602, e_L_law_605, e_L_law_611, e_L_law_616, e_L_law_618, e_L_law_623, e_L_law_626, e_L_law_631, e_L_law_635, e_L_law_636, e_L_law_640, e_L_law_642, bO_some, bF_I, bF_D, bF_C, bC_v, pk_mul, nI_add, Option.toList, List.cons_append, List.nil_append, t1, t2, t3, q1, bI_t q3, q4, bI_t q5, q6, hne, zI_0, if_true, if_false, eq_self, not_true_eq_false, not_false_eq_true, reduceCtorEq]
    exact hN _ _ _ _ _ q8
theorem case_candidate (hc : ∀ h' t, t < L → ldI sc h' (fun t => t == 0) (aC 0) (nI t) = some (xs t)) (hj : j + 4 ≤ L) (g : INV h i) (hN : ∀ h' v6 v7 v8 dl, INV h' (i + 1) → Win (Run sc n_L_law 1606 [aC 0, aD 0, aD 51, aD 71, aD 72, aI (nI j), v6, v7, v8] dl [] h')) (v6 v7 v8 : AV) (dl : DL) : Win (Run sc n_L_law 645 [aC 0, aD 0, aD 51, aD 71, aD 72, aI (nI j), v6, v7, v8] dl [] h) := by
  have t1 := fun h' => hc h' (j + 1) (by omega)
  have t2 := fun h' => hc h' (j + 2) (by omega)
  have t3 := fun h' => hc h' (j + 3) (by omega)
  have z0 : (nI 0 = 0) = True := eq_true (by decide)
  obtain ⟨k, b, h1, h2, q1, q2, q3, q4, q5, q6, q7, q8⟩ := J_candidate (sc := sc) g (xs (j + 1)) (xs (j + 2))
  dsimp only at q4
  by_cases hk : k = 0
  · subst hk
    have l := q7 rfl
    simp only [e_L_law_645, e_L_law_652, e_L_law_658, e_L_law_662, e_L_law_671, e_L_law_677, e_L_law_680, e_L_law_686, e_L_law_691, e_L_law_693, e_L_law_698, e_L_law_701, e_L_law_708, e_L_law_710, bO_some, bF_I, bF_D, bF_C, bC_v, pk_mul, nI_add, Option.toList, List.cons_append, List.nil_append, t1, t2, t3, q1, bI_t q3, q4, bI_t q5, q6, l, z0, lcmp, zI_0, if_true, if_false, eq_self, not_true_eq_false, not_false_eq_true, reduceCtorEq]
    exact hN _ _ _ _ _ q8
  · have hne : ¬ nI k = 0 := nI_n0 (by omega) (by omega)
    simp only [e_L_law_645, e_L_law_652, e_L_law_658, e_L_law_662, e_L_law_671, e_L_law_677, e_L_law_680, e_L_law_686, e_L_law_691, e_L_law_693, e_L_law_698, e_L_law_701, e_L_law_708, e_L_law_710, bO_some, bF_I, bF_D, bF_C, bC_v, pk_mul, nI_add, Option.toList, List.cons_append, List.nil_append, t1, t2, t3, q1, bI_t q3, q4, bI_t q5, q6, hne, zI_0, if_true, if_false, eq_self, not_true_eq_false, not_false_eq_true, reduceCtorEq]
    exact hN _ _ _ _ _ q8
theorem case_fill (hc : ∀ h' t, t < L → ldI sc h' (fun t => t == 0) (aC 0) (nI t) = some (xs t)) (hj : j + 4 ≤ L) (g : INV h i) (hN : ∀ h' v6 v7 v8 dl, INV h' (i + 1) → Win (Run sc n_L_law 1606 [aC 0, aD 0, aD 51, aD 71, aD 72, aI (nI j), v6, v7, v8] dl [] h')) (v6 v7 v8 : AV) (dl : DL) : Win (Run sc n_L_law 713 [aC 0, aD 0, aD 51, aD 71, aD 72, aI (nI j), v6, v7, v8] dl [] h) := by
  have t1 := fun h' => hc h' (j + 1) (by omega)
  have t2 := fun h' => hc h' (j + 2) (by omega)
  have t3 := fun h' => hc h' (j + 3) (by omega)
  have z0 : (nI 0 = 0) = True := eq_true (by decide)
  obtain ⟨k, b, h1, h2, q1, q2, q3, q4, q5, q6, q7, q8⟩ := J_fill (sc := sc) g (xs (j + 1)) (xs (j + 2))
  dsimp only at q4
  by_cases hk : k = 0
  · subst hk
    have l := q7 rfl
    simp only [e_L_law_713, e_L_law_720, e_L_law_726, e_L_law_730, e_L_law_739, e_L_law_745, e_L_law_748, e_L_law_754, e_L_law_759, e_L_law_761, e_L_law_766, e_L_law_769, e_L_law_776, e_L_law_778, bO_some, bF_I, bF_D, bF_C, bC_v, pk_mul, nI_add, Option.toList, List.cons_append, List.nil_append, t1, t2, t3, q1, bI_t q3, q4, bI_t q5, q6, l, z0, lcmp, zI_0, if_true, if_false, eq_self, not_true_eq_false, not_false_eq_true, reduceCtorEq]
    exact hN _ _ _ _ _ q8
  · have hne : ¬ nI k = 0 := nI_n0 (by omega) (by omega)
    simp only [e_L_law_713, e_L_law_720, e_L_law_726, e_L_law_730, e_L_law_739, e_L_law_745, e_L_law_748, e_L_law_754, e_L_law_759, e_L_law_761, e_L_law_766, e_L_law_769, e_L_law_776, e_L_law_778, bO_some, bF_I, bF_D, bF_C, bC_v, pk_mul, nI_add, Option.toList, List.cons_append, List.nil_append, t1, t2, t3, q1, bI_t q3, q4, bI_t q5, q6, hne, zI_0, if_true, if_false, eq_self, not_true_eq_false, not_false_eq_true, reduceCtorEq]
    exact hN _ _ _ _ _ q8
theorem case_fillAll (hc : ∀ h' t, t < L → ldI sc h' (fun t => t == 0) (aC 0) (nI t) = some (xs t)) (hj : j + 4 ≤ L) (g : INV h i) (hN : ∀ h' v6 v7 v8 dl, INV h' (i + 1) → Win (Run sc n_L_law 1606 [aC 0, aD 0, aD 51, aD 71, aD 72, aI (nI j), v6, v7, v8] dl [] h')) (v6 v7 v8 : AV) (dl : DL) : Win (Run sc n_L_law 781 [aC 0, aD 0, aD 51, aD 71, aD 72, aI (nI j), v6, v7, v8] dl [] h) := by
  have t1 := fun h' => hc h' (j + 1) (by omega)
  have t2 := fun h' => hc h' (j + 2) (by omega)
  have t3 := fun h' => hc h' (j + 3) (by omega)
  have z0 : (nI 0 = 0) = True := eq_true (by decide)
  obtain ⟨k, b, h1, h2, q1, q2, q3, q4, q5, q6, q7, q8⟩ := J_fillAll (sc := sc) g (xs (j + 1)) (xs (j + 2))
  dsimp only at q4
  by_cases hk : k = 0
  · subst hk
    have l := q7 rfl
    simp only [e_L_law_781, e_L_law_788, e_L_law_794, e_L_law_798, e_L_law_807, e_L_law_813, e_L_law_816, e_L_law_822, e_L_law_827, e_L_law_829, e_L_law_834, e_L_law_837, e_L_law_844, e_L_law_846, bO_some, bF_I, bF_D, bF_C, bC_v, pk_mul, nI_add, Option.toList, List.cons_append, List.nil_append, t1, t2, t3, q1, bI_t q3, q4, bI_t q5, q6, l, z0, lcmp, zI_0, if_true, if_false, eq_self, not_true_eq_false, not_false_eq_true, reduceCtorEq]
    exact hN _ _ _ _ _ q8
  · have hne : ¬ nI k = 0 := nI_n0 (by omega) (by omega)
    simp only [e_L_law_781, e_L_law_788, e_L_law_794, e_L_law_798, e_L_law_807, e_L_law_813, e_L_law_816, e_L_law_822, e_L_law_827, e_L_law_829, e_L_law_834, e_L_law_837, e_L_law_844, e_L_law_846, bO_some, bF_I, bF_D, bF_C, bC_v, pk_mul, nI_add, Option.toList, List.cons_append, List.nil_append, t1, t2, t3, q1, bI_t q3, q4, bI_t q5, q6, hne, zI_0, if_true, if_false, eq_self, not_true_eq_false, not_false_eq_true, reduceCtorEq]
    exact hN _ _ _ _ _ q8
theorem case_undo (hc : ∀ h' t, t < L → ldI sc h' (fun t => t == 0) (aC 0) (nI t) = some (xs t)) (hj : j + 4 ≤ L) (g : INV h i) (hN : ∀ h' v6 v7 v8 dl, INV h' (i + 1) → Win (Run sc n_L_law 1606 [aC 0, aD 0, aD 51, aD 71, aD 72, aI (nI j), v6, v7, v8] dl [] h')) (v6 v7 v8 : AV) (dl : DL) : Win (Run sc n_L_law 849 [aC 0, aD 0, aD 51, aD 71, aD 72, aI (nI j), v6, v7, v8] dl [] h) := by
  have t1 := fun h' => hc h' (j + 1) (by omega)
  have t2 := fun h' => hc h' (j + 2) (by omega)
  have t3 := fun h' => hc h' (j + 3) (by omega)
  have z0 : (nI 0 = 0) = True := eq_true (by decide)
  obtain ⟨k, b, h1, h2, q1, q2, q3, q4, q5, q6, q7, q8⟩ := J_undo (sc := sc) g 
  dsimp only at q4
  by_cases hk : k = 0
  · subst hk
    have l := q7 rfl
    simp only [e_L_law_849, e_L_law_854, e_L_law_860, e_L_law_866, e_L_law_871, e_L_law_873, e_L_law_878, e_L_law_881, e_L_law_888, e_L_law_890, bO_some, bF_I, bF_D, bF_C, bC_v, pk_mul, nI_add, Option.toList, List.cons_append, List.nil_append, t1, t2, t3, q1, bI_t q3, q4, bI_t q5, q6, l, z0, lcmp, zI_0, if_true, if_false, eq_self, not_true_eq_false, not_false_eq_true, reduceCtorEq]
    exact hN _ _ _ _ _ q8
  · have hne : ¬ nI k = 0 := nI_n0 (by omega) (by omega)
    simp only [e_L_law_849, e_L_law_854, e_L_law_860, e_L_law_866, e_L_law_871, e_L_law_873, e_L_law_878, e_L_law_881, e_L_law_888, e_L_law_890, bO_some, bF_I, bF_D, bF_C, bC_v, pk_mul, nI_add, Option.toList, List.cons_append, List.nil_append, t1, t2, t3, q1, bI_t q3, q4, bI_t q5, q6, hne, zI_0, if_true, if_false, eq_self, not_true_eq_false, not_false_eq_true, reduceCtorEq]
    exact hN _ _ _ _ _ q8
theorem case_write (hc : ∀ h' t, t < L → ldI sc h' (fun t => t == 0) (aC 0) (nI t) = some (xs t)) (hj : j + 4 ≤ L) (g : INV h i) (hN : ∀ h' v6 v7 v8 dl, INV h' (i + 1) → Win (Run sc n_L_law 1606 [aC 0, aD 0, aD 51, aD 71, aD 72, aI (nI j), v6, v7, v8] dl [] h')) (v6 v7 v8 : AV) (dl : DL) : Win (Run sc n_L_law 893 [aC 0, aD 0, aD 51, aD 71, aD 72, aI (nI j), v6, v7, v8] dl [] h) := by
  obtain ⟨a, h1, h2, q1, q2, q3, q4⟩ := J_write (sc := sc) g
  dsimp only at q3
  have ok0 := g.ok (sc := sc)
  simp only [e_L_law_893, e_L_law_897, e_L_law_901, e_L_law_904, bO_some, bF_I, bF_D, bF_C, bC_v, pk_mul, nI_add, Option.toList, List.cons_append, List.nil_append, bI_t ok0, q1, bI_t q2, q3, zI_0, if_true, if_false, eq_self, not_true_eq_false, not_false_eq_true, reduceCtorEq]
  exact hN _ _ _ _ _ q4
theorem case_text (hc : ∀ h' t, t < L → ldI sc h' (fun t => t == 0) (aC 0) (nI t) = some (xs t)) (hj : j + 4 ≤ L) (g : INV h i) (hN : ∀ h' v6 v7 v8 dl, INV h' (i + 1) → Win (Run sc n_L_law 1606 [aC 0, aD 0, aD 51, aD 71, aD 72, aI (nI j), v6, v7, v8] dl [] h')) (v6 v7 v8 : AV) (dl : DL) : Win (Run sc n_L_law 906 [aC 0, aD 0, aD 51, aD 71, aD 72, aI (nI j), v6, v7, v8] dl [] h) := by
  have t1 := fun h' => hc h' (j + 1) (by omega)
  have t2 := fun h' => hc h' (j + 2) (by omega)
  have t3 := fun h' => hc h' (j + 3) (by omega)
  have z0 : (nI 0 = 0) = True := eq_true (by decide)
  obtain ⟨k, b, h1, h2, q1, q2, q3, q4, q5, q6, q7, q8⟩ := J_text (sc := sc) g (xs (j + 1))
  dsimp only at q4
  by_cases hk : k = 0
  · subst hk
    have l := q7 rfl
    simp only [e_L_law_906, e_L_law_913, e_L_law_917, e_L_law_926, e_L_law_929, e_L_law_935, e_L_law_940, e_L_law_942, e_L_law_947, e_L_law_950, e_L_law_957, e_L_law_959, bO_some, bF_I, bF_D, bF_C, bC_v, pk_mul, nI_add, Option.toList, List.cons_append, List.nil_append, t1, t2, t3, q1, bI_t q3, q4, bI_t q5, q6, l, z0, lcmp, zI_0, if_true, if_false, eq_self, not_true_eq_false, not_false_eq_true, reduceCtorEq]
    exact hN _ _ _ _ _ q8
  · have hne : ¬ nI k = 0 := nI_n0 (by omega) (by omega)
    simp only [e_L_law_906, e_L_law_913, e_L_law_917, e_L_law_926, e_L_law_929, e_L_law_935, e_L_law_940, e_L_law_942, e_L_law_947, e_L_law_950, e_L_law_957, e_L_law_959, bO_some, bF_I, bF_D, bF_C, bC_v, pk_mul, nI_add, Option.toList, List.cons_append, List.nil_append, t1, t2, t3, q1, bI_t q3, q4, bI_t q5, q6, hne, zI_0, if_true, if_false, eq_self, not_true_eq_false, not_false_eq_true, reduceCtorEq]
    exact hN _ _ _ _ _ q8
theorem case_setInitial (hc : ∀ h' t, t < L → ldI sc h' (fun t => t == 0) (aC 0) (nI t) = some (xs t)) (hj : j + 4 ≤ L) (g : INV h i) (hN : ∀ h' v6 v7 v8 dl, INV h' (i + 1) → Win (Run sc n_L_law 1606 [aC 0, aD 0, aD 51, aD 71, aD 72, aI (nI j), v6, v7, v8] dl [] h')) (v6 v7 v8 : AV) (dl : DL) : Win (Run sc n_L_law 962 [aC 0, aD 0, aD 51, aD 71, aD 72, aI (nI j), v6, v7, v8] dl [] h) := by
  have t1 := fun h' => hc h' (j + 1) (by omega)
  have t2 := fun h' => hc h' (j + 2) (by omega)
  have t3 := fun h' => hc h' (j + 3) (by omega)
  have z0 : (nI 0 = 0) = True := eq_true (by decide)
  by_cases hb : xs (j + 1) = 0
  · obtain ⟨k, b, h1, h2, q1, q2, q3, q4, q5, q6, q7, q8⟩ := J_setInitial (sc := sc) g false (xs (j + 2)) (xs (j + 3))
    dsimp only at q4
    rw [show zI false = nI 0 from rfl] at q1 q4
    by_cases hk : k = 0
    · subst hk
      have l := q7 rfl
      simp only [e_L_law_962, e_L_law_969, e_L_law_972, e_L_law_976, e_L_law_977, e_L_law_983, e_L_law_989, e_L_law_993, e_L_law_1002, e_L_law_1005, e_L_law_1009, e_L_law_1010, e_L_law_1016, e_L_law_1022, e_L_law_1025, e_L_law_1031, e_L_law_1036, e_L_law_1038, e_L_law_1043, e_L_law_1046, e_L_law_1053, e_L_law_1055, bO_some, bF_I, bF_D, bF_C, bC_v, pk_mul, nI_add, Option.toList, List.cons_append, List.nil_append, hb, t1, t2, t3, q1, bI_t q3, q4, bI_t q5, q6, l, z0, lcmp, zI_0, if_true, if_false, eq_self, not_true_eq_false, not_false_eq_true, reduceCtorEq]
      exact hN _ _ _ _ _ q8
    · have hne : ¬ nI k = 0 := nI_n0 (by omega) (by omega)
      simp only [e_L_law_962, e_L_law_969, e_L_law_972, e_L_law_976, e_L_law_977, e_L_law_983, e_L_law_989, e_L_law_993, e_L_law_1002, e_L_law_1005, e_L_law_1009, e_L_law_1010, e_L_law_1016, e_L_law_1022, e_L_law_1025, e_L_law_1031, e_L_law_1036, e_L_law_1038, e_L_law_1043, e_L_law_1046, e_L_law_1053, e_L_law_1055, bO_some, bF_I, bF_D, bF_C, bC_v, pk_mul, nI_add, Option.toList, List.cons_append, List.nil_append, hb, t1, t2, t3, q1, bI_t q3, q4, bI_t q5, q6, hne, zI_0, if_true, if_false, eq_self, not_true_eq_false, not_false_eq_true, reduceCtorEq]
      exact hN _ _ _ _ _ q8
  · obtain ⟨k, b, h1, h2, q1, q2, q3, q4, q5, q6, q7, q8⟩ := J_setInitial (sc := sc) g true (xs (j + 2)) (xs (j + 3))
    dsimp only at q4
    rw [show zI true = nI 1 from rfl] at q1 q4
    by_cases hk : k = 0
    · subst hk
      have l := q7 rfl
      simp only [e_L_law_962, e_L_law_969, e_L_law_972, e_L_law_976, e_L_law_977, e_L_law_983, e_L_law_989, e_L_law_993, e_L_law_1002, e_L_law_1005, e_L_law_1009, e_L_law_1010, e_L_law_1016, e_L_law_1022, e_L_law_1025, e_L_law_1031, e_L_law_1036, e_L_law_1038, e_L_law_1043, e_L_law_1046, e_L_law_1053, e_L_law_1055, bO_some, bF_I, bF_D, bF_C, bC_v, pk_mul, nI_add, Option.toList, List.cons_append, List.nil_append, hb, t1, t2, t3, q1, bI_t q3, q4, bI_t q5, q6, l, z0, lcmp, zI_0, if_true, if_false, eq_self, not_true_eq_false, not_false_eq_true, reduceCtorEq]
      exact hN _ _ _ _ _ q8
    · have hne : ¬ nI k = 0 := nI_n0 (by omega) (by omega)
      simp only [e_L_law_962, e_L_law_969, e_L_law_972, e_L_law_976, e_L_law_977, e_L_law_983, e_L_law_989, e_L_law_993, e_L_law_1002, e_L_law_1005, e_L_law_1009, e_L_law_1010, e_L_law_1016, e_L_law_1022, e_L_law_1025, e_L_law_1031, e_L_law_1036, e_L_law_1038, e_L_law_1043, e_L_law_1046, e_L_law_1053, e_L_law_1055, bO_some, bF_I, bF_D, bF_C, bC_v, pk_mul, nI_add, Option.toList, List.cons_append, List.nil_append, hb, t1, t2, t3, q1, bI_t q3, q4, bI_t q5, q6, hne, zI_0, if_true, if_false, eq_self, not_true_eq_false, not_false_eq_true, reduceCtorEq]
      exact hN _ _ _ _ _ q8
theorem case_run (hc : ∀ h' t, t < L → ldI sc h' (fun t => t == 0) (aC 0) (nI t) = some (xs t)) (hj : j + 4 ≤ L) (g : INV h i) (hN : ∀ h' v6 v7 v8 dl, INV h' (i + 1) → Win (Run sc n_L_law 1606 [aC 0, aD 0, aD 51, aD 71, aD 72, aI (nI j), v6, v7, v8] dl [] h')) (v6 v7 v8 : AV) (dl : DL) : Win (Run sc n_L_law 1058 [aC 0, aD 0, aD 51, aD 71, aD 72, aI (nI j), v6, v7, v8] dl [] h) := by
  have t1 := fun h' => hc h' (j + 1) (by omega)
  have t2 := fun h' => hc h' (j + 2) (by omega)
  have t3 := fun h' => hc h' (j + 3) (by omega)
  have z0 : (nI 0 = 0) = True := eq_true (by decide)
  by_cases hb : xs (j + 1) = 0
  · obtain ⟨k, b, h1, h2, q1, q2, q3, q4, q5, q6, q7, q8⟩ := J_run (sc := sc) g false (xs (j + 2))
    dsimp only at q4
    rw [show zI false = nI 0 from rfl] at q1 q4
    by_cases hk : k = 0
    · subst hk
      have l := q7 rfl
      simp only [e_L_law_1058, e_L_law_1065, e_L_law_1068, e_L_law_1072, e_L_law_1073, e_L_law_1079, e_L_law_1083, e_L_law_1092, e_L_law_1095, e_L_law_1099, e_L_law_1100, e_L_law_1106, e_L_law_1109, e_L_law_1115, e_L_law_1120, e_L_law_1122, e_L_law_1127, e_L_law_1130, e_L_law_1137, e_L_law_1139, bO_some, bF_I, bF_D, bF_C, bC_v, pk_mul, nI_add, Option.toList, List.cons_append, List.nil_append, hb, t1, t2, t3, q1, bI_t q3, q4, bI_t q5, q6, l, z0, lcmp, zI_0, if_true, if_false, eq_self, not_true_eq_false, not_false_eq_true, reduceCtorEq]
      exact hN _ _ _ _ _ q8
    · have hne : ¬ nI k = 0 := nI_n0 (by omega) (by omega)
      simp only [e_L_law_1058, e_L_law_1065, e_L_law_1068, e_L_law_1072, e_L_law_1073, e_L_law_1079, e_L_law_1083, e_L_law_1092, e_L_law_1095, e_L_law_1099, e_L_law_1100, e_L_law_1106, e_L_law_1109, e_L_law_1115, e_L_law_1120, e_L_law_1122, e_L_law_1127, e_L_law_1130, e_L_law_1137, e_L_law_1139, bO_some, bF_I, bF_D, bF_C, bC_v, pk_mul, nI_add, Option.toList, List.cons_append, List.nil_append, hb, t1, t2, t3, q1, bI_t q3, q4, bI_t q5, q6, hne, zI_0, if_true, if_false, eq_self, not_true_eq_false, not_false_eq_true, reduceCtorEq]
      exact hN _ _ _ _ _ q8
  · obtain ⟨k, b, h1, h2, q1, q2, q3, q4, q5, q6, q7, q8⟩ := J_run (sc := sc) g true (xs (j + 2))
    dsimp only at q4
    rw [show zI true = nI 1 from rfl] at q1 q4
    by_cases hk : k = 0
    · subst hk
      have l := q7 rfl
      simp only [e_L_law_1058, e_L_law_1065, e_L_law_1068, e_L_law_1072, e_L_law_1073, e_L_law_1079, e_L_law_1083, e_L_law_1092, e_L_law_1095, e_L_law_1099, e_L_law_1100, e_L_law_1106, e_L_law_1109, e_L_law_1115, e_L_law_1120, e_L_law_1122, e_L_law_1127, e_L_law_1130, e_L_law_1137, e_L_law_1139, bO_some, bF_I, bF_D, bF_C, bC_v, pk_mul, nI_add, Option.toList, List.cons_append, List.nil_append, hb, t1, t2, t3, q1, bI_t q3, q4, bI_t q5, q6, l, z0, lcmp, zI_0, if_true, if_false, eq_self, not_true_eq_false, not_false_eq_true, reduceCtorEq]
      exact hN _ _ _ _ _ q8
    · have hne : ¬ nI k = 0 := nI_n0 (by omega) (by omega)
      simp only [e_L_law_1058, e_L_law_1065, e_L_law_1068, e_L_law_1072, e_L_law_1073, e_L_law_1079, e_L_law_1083, e_L_law_1092, e_L_law_1095, e_L_law_1099, e_L_law_1100, e_L_law_1106, e_L_law_1109, e_L_law_1115, e_L_law_1120, e_L_law_1122, e_L_law_1127, e_L_law_1130, e_L_law_1137, e_L_law_1139, bO_some, bF_I, bF_D, bF_C, bC_v, pk_mul, nI_add, Option.toList, List.cons_append, List.nil_append, hb, t1, t2, t3, q1, bI_t q3, q4, bI_t q5, q6, hne, zI_0, if_true, if_false, eq_self, not_true_eq_false, not_false_eq_true, reduceCtorEq]
      exact hN _ _ _ _ _ q8
theorem case_finalValue (hc : ∀ h' t, t < L → ldI sc h' (fun t => t == 0) (aC 0) (nI t) = some (xs t)) (hj : j + 4 ≤ L) (g : INV h i) (hN : ∀ h' v6 v7 v8 dl, INV h' (i + 1) → Win (Run sc n_L_law 1606 [aC 0, aD 0, aD 51, aD 71, aD 72, aI (nI j), v6, v7, v8] dl [] h')) (v6 v7 v8 : AV) (dl : DL) : Win (Run sc n_L_law 1142 [aC 0, aD 0, aD 51, aD 71, aD 72, aI (nI j), v6, v7, v8] dl [] h) := by
  have t1 := fun h' => hc h' (j + 1) (by omega)
  have t2 := fun h' => hc h' (j + 2) (by omega)
  have t3 := fun h' => hc h' (j + 3) (by omega)
  have z0 : (nI 0 = 0) = True := eq_true (by decide)
  by_cases hb : xs (j + 1) = 0
  · obtain ⟨k, b, h1, h2, q1, q2, q3, q4, q5, q6, q7, q8⟩ := J_finalValue (sc := sc) g false (xs (j + 2))
    dsimp only at q4
    rw [show zI false = nI 0 from rfl] at q1 q4
    by_cases hk : k = 0
    · subst hk
      have l := q7 rfl
      simp only [e_L_law_1142, e_L_law_1149, e_L_law_1152, e_L_law_1156, e_L_law_1157, e_L_law_1163, e_L_law_1167, e_L_law_1176, e_L_law_1179, e_L_law_1183, e_L_law_1184, e_L_law_1190, e_L_law_1193, e_L_law_1199, e_L_law_1204, e_L_law_1206, e_L_law_1211, e_L_law_1214, e_L_law_1221, e_L_law_1223, bO_some, bF_I, bF_D, bF_C, bC_v, pk_mul, nI_add, Option.toList, List.cons_append, List.nil_append, hb, t1, t2, t3, q1, bI_t q3, q4, bI_t q5, q6, l, z0, lcmp, zI_0, if_true, if_false, eq_self, not_true_eq_false, not_false_eq_true, reduceCtorEq]
      exact hN _ _ _ _ _ q8
    · have hne : ¬ nI k = 0 := nI_n0 (by omega) (by omega)
      simp only [e_L_law_1142, e_L_law_1149, e_L_law_1152, e_L_law_1156, e_L_law_1157, e_L_law_1163, e_L_law_1167, e_L_law_1176, e_L_law_1179, e_L_law_1183, e_L_law_1184, e_L_law_1190, e_L_law_1193, e_L_law_1199, e_L_law_1204, e_L_law_1206, e_L_law_1211, e_L_law_1214, e_L_law_1221, e_L_law_1223, bO_some, bF_I, bF_D, bF_C, bC_v, pk_mul, nI_add, Option.toList, List.cons_append, List.nil_append, hb, t1, t2, t3, q1, bI_t q3, q4, bI_t q5, q6, hne, zI_0, if_true, if_false, eq_self, not_true_eq_false, not_false_eq_true, reduceCtorEq]
      exact hN _ _ _ _ _ q8
  · obtain ⟨k, b, h1, h2, q1, q2, q3, q4, q5, q6, q7, q8⟩ := J_finalValue (sc := sc) g true (xs (j + 2))
    dsimp only at q4
    rw [show zI true = nI 1 from rfl] at q1 q4
    by_cases hk : k = 0
    · subst hk
      have l := q7 rfl
      simp only [e_L_law_1142, e_L_law_1149, e_L_law_1152, e_L_law_1156, e_L_law_1157, e_L_law_1163, e_L_law_1167, e_L_law_1176, e_L_law_1179, e_L_law_1183, e_L_law_1184, e_L_law_1190, e_L_law_1193, e_L_law_1199, e_L_law_1204, e_L_law_1206, e_L_law_1211, e_L_law_1214, e_L_law_1221, e_L_law_1223, bO_some, bF_I, bF_D, bF_C, bC_v, pk_mul, nI_add, Option.toList, List.cons_append, List.nil_append, hb, t1, t2, t3, q1, bI_t q3, q4, bI_t q5, q6, l, z0, lcmp, zI_0, if_true, if_false, eq_self, not_true_eq_false, not_false_eq_true, reduceCtorEq]
      exact hN _ _ _ _ _ q8
    · have hne : ¬ nI k = 0 := nI_n0 (by omega) (by omega)
      simp only [e_L_law_1142, e_L_law_1149, e_L_law_1152, e_L_law_1156, e_L_law_1157, e_L_law_1163, e_L_law_1167, e_L_law_1176, e_L_law_1179, e_L_law_1183, e_L_law_1184, e_L_law_1190, e_L_law_1193, e_L_law_1199, e_L_law_1204, e_L_law_1206, e_L_law_1211, e_L_law_1214, e_L_law_1221, e_L_law_1223, bO_some, bF_I, bF_D, bF_C, bC_v, pk_mul, nI_add, Option.toList, List.cons_append, List.nil_append, hb, t1, t2, t3, q1, bI_t q3, q4, bI_t q5, q6, hne, zI_0, if_true, if_false, eq_self, not_true_eq_false, not_false_eq_true, reduceCtorEq]
      exact hN _ _ _ _ _ q8
theorem case_outputs (hc : ∀ h' t, t < L → ldI sc h' (fun t => t == 0) (aC 0) (nI t) = some (xs t)) (hj : j + 4 ≤ L) (g : INV h i) (hN : ∀ h' v6 v7 v8 dl, INV h' (i + 1) → Win (Run sc n_L_law 1606 [aC 0, aD 0, aD 51, aD 71, aD 72, aI (nI j), v6, v7, v8] dl [] h')) (v6 v7 v8 : AV) (dl : DL) : Win (Run sc n_L_law 1226 [aC 0, aD 0, aD 51, aD 71, aD 72, aI (nI j), v6, v7, v8] dl [] h) := by
  have t1 := fun h' => hc h' (j + 1) (by omega)
  have t2 := fun h' => hc h' (j + 2) (by omega)
  have t3 := fun h' => hc h' (j + 3) (by omega)
  have z0 : (nI 0 = 0) = True := eq_true (by decide)
  obtain ⟨k, b, h1, h2, q1, q2, q3, q4, q5, q6, q7, q8⟩ := J_outputs (sc := sc) g 
  dsimp only at q4
  by_cases hk : k = 0
  · subst hk
    have l := q7 rfl
    simp only [e_L_law_1226, e_L_law_1231, e_L_law_1237, e_L_law_1243, e_L_law_1248, e_L_law_1250, e_L_law_1255, e_L_law_1258, e_L_law_1265, e_L_law_1267, bO_some, bF_I, bF_D, bF_C, bC_v, pk_mul, nI_add, Option.toList, List.cons_append, List.nil_append, t1, t2, t3, q1, bI_t q3, q4, bI_t q5, q6, l, z0, lcmp, zI_0, if_true, if_false, eq_self, not_true_eq_false, not_false_eq_true, reduceCtorEq]
    exact hN _ _ _ _ _ q8
  · have hne : ¬ nI k = 0 := nI_n0 (by omega) (by omega)
    simp only [e_L_law_1226, e_L_law_1231, e_L_law_1237, e_L_law_1243, e_L_law_1248, e_L_law_1250, e_L_law_1255, e_L_law_1258, e_L_law_1265, e_L_law_1267, bO_some, bF_I, bF_D, bF_C, bC_v, pk_mul, nI_add, Option.toList, List.cons_append, List.nil_append, t1, t2, t3, q1, bI_t q3, q4, bI_t q5, q6, hne, zI_0, if_true, if_false, eq_self, not_true_eq_false, not_false_eq_true, reduceCtorEq]
    exact hN _ _ _ _ _ q8
theorem case_output (hc : ∀ h' t, t < L → ldI sc h' (fun t => t == 0) (aC 0) (nI t) = some (xs t)) (hj : j + 4 ≤ L) (g : INV h i) (hN : ∀ h' v6 v7 v8 dl, INV h' (i + 1) → Win (Run sc n_L_law 1606 [aC 0, aD 0, aD 51, aD 71, aD 72, aI (nI j), v6, v7, v8] dl [] h')) (v6 v7 v8 : AV) (dl : DL) : Win (Run sc n_L_law 1270 [aC 0, aD 0, aD 51, aD 71, aD 72, aI (nI j), v6, v7, v8] dl [] h) := by
  have t1 := fun h' => hc h' (j + 1) (by omega)
  have t2 := fun h' => hc h' (j + 2) (by omega)
  have t3 := fun h' => hc h' (j + 3) (by omega)
  have z0 : (nI 0 = 0) = True := eq_true (by decide)
  obtain ⟨k, b, h1, h2, q1, q2, q3, q4, q5, q6, q7, q8⟩ := J_output (sc := sc) g (xs (j + 1))
  dsimp only at q4
  by_cases hk : k = 0
  · subst hk
    have l := q7 rfl
    simp only [e_L_law_1270, e_L_law_1277, e_L_law_1281, e_L_law_1290, e_L_law_1293, e_L_law_1299, e_L_law_1304, e_L_law_1306, e_L_law_1311, e_L_law_1314, e_L_law_1321, e_L_law_1323, bO_some, bF_I, bF_D, bF_C, bC_v, pk_mul, nI_add, Option.toList, List.cons_append, List.nil_append, t1, t2, t3, q1, bI_t q3, q4, bI_t q5, q6, l, z0, lcmp, zI_0, if_true, if_false, eq_self, not_true_eq_false, not_false_eq_true, reduceCtorEq]
    exact hN _ _ _ _ _ q8
  · have hne : ¬ nI k = 0 := nI_n0 (by omega) (by omega)
    simp only [e_L_law_1270, e_L_law_1277, e_L_law_1281, e_L_law_1290, e_L_law_1293, e_L_law_1299, e_L_law_1304, e_L_law_1306, e_L_law_1311, e_L_law_1314, e_L_law_1321, e_L_law_1323, bO_some, bF_I, bF_D, bF_C, bC_v, pk_mul, nI_add, Option.toList, List.cons_append, List.nil_append, t1, t2, t3, q1, bI_t q3, q4, bI_t q5, q6, hne, zI_0, if_true, if_false, eq_self, not_true_eq_false, not_false_eq_true, reduceCtorEq]
    exact hN _ _ _ _ _ q8
theorem case_differences (hc : ∀ h' t, t < L → ldI sc h' (fun t => t == 0) (aC 0) (nI t) = some (xs t)) (hj : j + 4 ≤ L) (g : INV h i) (hN : ∀ h' v6 v7 v8 dl, INV h' (i + 1) → Win (Run sc n_L_law 1606 [aC 0, aD 0, aD 51, aD 71, aD 72, aI (nI j), v6, v7, v8] dl [] h')) (v6 v7 v8 : AV) (dl : DL) : Win (Run sc n_L_law 1326 [aC 0, aD 0, aD 51, aD 71, aD 72, aI (nI j), v6, v7, v8] dl [] h) := by
  have t1 := fun h' => hc h' (j + 1) (by omega)
  have t2 := fun h' => hc h' (j + 2) (by omega)
  have t3 := fun h' => hc h' (j + 3) (by omega)
  have z0 : (nI 0 = 0) = True := eq_true (by decide)
  obtain ⟨k, b, h1, h2, q1, q2, q3, q4, q5, q6, q7, q8⟩ := J_differences (sc := sc) g (xs (j + 1)) (xs (j + 2))
  dsimp only at q4
  by_cases hk : k = 0
  · subst hk
    have l := q7 rfl
    simp only [e_L_law_1326, e_L_law_1333, e_L_law_1339, e_L_law_1343, e_L_law_1352, e_L_law_1358, e_L_law_1361, e_L_law_1367, e_L_law_1372, e_L_law_1374, e_L_law_1379, e_L_law_1382, e_L_law_1389, e_L_law_1391, bO_some, bF_I, bF_D, bF_C, bC_v, pk_mul, nI_add, Option.toList, List.cons_append, List.nil_append, t1, t2, t3, q1, bI_t q3, q4, bI_t q5, q6, l, z0, lcmp, zI_0, if_true, if_false, eq_self, not_true_eq_false, not_false_eq_true, reduceCtorEq]
    exact hN _ _ _ _ _ q8
  · have hne : ¬ nI k = 0 := nI_n0 (by omega) (by omega)
    simp only [e_L_law_1326, e_L_law_1333, e_L_law_1339, e_L_law_1343, e_L_law_1352, e_L_law_1358, e_L_law_1361, e_L_law_1367, e_L_law_1372, e_L_law_1374, e_L_law_1379, e_L_law_1382, e_L_law_1389, e_L_law_1391, bO_some, bF_I, bF_D, bF_C, bC_v, pk_mul, nI_add, Option.toList, List.cons_append, List.nil_append, t1, t2, t3, q1, bI_t q3, q4, bI_t q5, q6, hne, zI_0, if_true, if_false, eq_self, not_true_eq_false, not_false_eq_true, reduceCtorEq]
    exact hN _ _ _ _ _ q8
theorem case_meanSteps (hc : ∀ h' t, t < L → ldI sc h' (fun t => t == 0) (aC 0) (nI t) = some (xs t)) (hj : j + 4 ≤ L) (g : INV h i) (hN : ∀ h' v6 v7 v8 dl, INV h' (i + 1) → Win (Run sc n_L_law 1606 [aC 0, aD 0, aD 51, aD 71, aD 72, aI (nI j), v6, v7, v8] dl [] h')) (v6 v7 v8 : AV) (dl : DL) : Win (Run sc n_L_law 1394 [aC 0, aD 0, aD 51, aD 71, aD 72, aI (nI j), v6, v7, v8] dl [] h) := by
  have t1 := fun h' => hc h' (j + 1) (by omega)
  have t2 := fun h' => hc h' (j + 2) (by omega)
  have t3 := fun h' => hc h' (j + 3) (by omega)
  have z0 : (nI 0 = 0) = True := eq_true (by decide)
  obtain ⟨k, b, h1, h2, q1, q2, q3, q4, q5, q6, q7, q8⟩ := J_meanSteps (sc := sc) g (xs (j + 1)) (xs (j + 2))
  dsimp only at q4
  by_cases hk : k = 0
  · subst hk
    have l := q7 rfl
    by_cases hz : Op.cmpValue (FP.dcmp b b) .l = 0
    · simp only [e_L_law_1394, e_L_law_1401, e_L_law_1407, e_L_law_1412, e_L_law_1421, e_L_law_1427, e_L_law_1430, e_L_law_1436, e_L_law_1441, e_L_law_1443, e_L_law_1448, e_L_law_1452, e_L_law_1458, e_L_law_1462, e_L_law_1466, e_L_law_1470, e_L_law_1478, e_L_law_1480, bO_some, bF_I, bF_D, bF_C, bC_v, pk_mul, nI_add, Option.toList, List.cons_append, List.nil_append, t1, t2, t3, q1, bI_t q3, q4, bI_t q5, q6, l, z0, hz, zI_0, if_true, if_false, eq_self, not_true_eq_false, not_false_eq_true, reduceCtorEq]
      exact hN _ _ _ _ _ q8
    · simp only [e_L_law_1394, e_L_law_1401, e_L_law_1407, e_L_law_1412, e_L_law_1421, e_L_law_1427, e_L_law_1430, e_L_law_1436, e_L_law_1441, e_L_law_1443, e_L_law_1448, e_L_law_1452, e_L_law_1458, e_L_law_1462, e_L_law_1466, e_L_law_1470, e_L_law_1478, e_L_law_1480, bO_some, bF_I, bF_D, bF_C, bC_v, pk_mul, nI_add, Option.toList, List.cons_append, List.nil_append, t1, t2, t3, q1, bI_t q3, q4, bI_t q5, q6, l, z0, hz, zI_0, if_true, if_false, eq_self, not_true_eq_false, not_false_eq_true, reduceCtorEq]
      exact hN _ _ _ _ _ q8
  · have hne : ¬ nI k = 0 := nI_n0 (by omega) (by omega)
    simp only [e_L_law_1394, e_L_law_1401, e_L_law_1407, e_L_law_1412, e_L_law_1421, e_L_law_1427, e_L_law_1430, e_L_law_1436, e_L_law_1441, e_L_law_1443, e_L_law_1448, e_L_law_1452, e_L_law_1458, e_L_law_1462, e_L_law_1466, e_L_law_1470, e_L_law_1478, e_L_law_1480, bO_some, bF_I, bF_D, bF_C, bC_v, pk_mul, nI_add, Option.toList, List.cons_append, List.nil_append, t1, t2, t3, q1, bI_t q3, q4, bI_t q5, q6, hne, zI_0, if_true, if_false, eq_self, not_true_eq_false, not_false_eq_true, reduceCtorEq]
    exact hN _ _ _ _ _ q8
theorem case_filledShare (hc : ∀ h' t, t < L → ldI sc h' (fun t => t == 0) (aC 0) (nI t) = some (xs t)) (hj : j + 4 ≤ L) (g : INV h i) (hN : ∀ h' v6 v7 v8 dl, INV h' (i + 1) → Win (Run sc n_L_law 1606 [aC 0, aD 0, aD 51, aD 71, aD 72, aI (nI j), v6, v7, v8] dl [] h')) (v6 v7 v8 : AV) (dl : DL) : Win (Run sc n_L_law 1483 [aC 0, aD 0, aD 51, aD 71, aD 72, aI (nI j), v6, v7, v8] dl [] h) := by
  have t1 := fun h' => hc h' (j + 1) (by omega)
  have t2 := fun h' => hc h' (j + 2) (by omega)
  have t3 := fun h' => hc h' (j + 3) (by omega)
  have z0 : (nI 0 = 0) = True := eq_true (by decide)
  obtain ⟨k, b, h1, h2, q1, q2, q3, q4, q5, q6, q7, q8⟩ := J_filledShare (sc := sc) g 
  dsimp only at q4
  by_cases hk : k = 0
  · subst hk
    obtain ⟨l, d1, d2⟩ := q7 rfl
    simp only [e_L_law_1483, e_L_law_1489, e_L_law_1495, e_L_law_1501, e_L_law_1506, e_L_law_1508, e_L_law_1513, e_L_law_1517, e_L_law_1520, e_L_law_1524, e_L_law_1528, e_L_law_1532, e_L_law_1544, e_L_law_1546, bO_some, bF_I, bF_D, bF_C, bC_v, pk_mul, nI_add, Option.toList, List.cons_append, List.nil_append, t1, t2, t3, q1, bI_t q3, q4, bI_t q5, q6, l, z0, bI_t d1, d2, zI_0, if_true, if_false, eq_self, not_true_eq_false, not_false_eq_true, reduceCtorEq]
    exact hN _ _ _ _ _ q8
  · have hne : ¬ nI k = 0 := nI_n0 (by omega) (by omega)
    simp only [e_L_law_1483, e_L_law_1489, e_L_law_1495, e_L_law_1501, e_L_law_1506, e_L_law_1508, e_L_law_1513, e_L_law_1517, e_L_law_1520, e_L_law_1524, e_L_law_1528, e_L_law_1532, e_L_law_1544, e_L_law_1546, bO_some, bF_I, bF_D, bF_C, bC_v, pk_mul, nI_add, Option.toList, List.cons_append, List.nil_append, t1, t2, t3, q1, bI_t q3, q4, bI_t q5, q6, hne, zI_0, if_true, if_false, eq_self, not_true_eq_false, not_false_eq_true, reduceCtorEq]
    exact hN _ _ _ _ _ q8
theorem case_save (hc : ∀ h' t, t < L → ldI sc h' (fun t => t == 0) (aC 0) (nI t) = some (xs t)) (hj : j + 4 ≤ L) (g : INV h i) (hN : ∀ h' v6 v7 v8 dl, INV h' (i + 1) → Win (Run sc n_L_law 1606 [aC 0, aD 0, aD 51, aD 71, aD 72, aI (nI j), v6, v7, v8] dl [] h')) (v6 v7 v8 : AV) (dl : DL) : Win (Run sc n_L_law 1549 [aC 0, aD 0, aD 51, aD 71, aD 72, aI (nI j), v6, v7, v8] dl [] h) := by
  obtain ⟨a, h1, h2, q1, q2, q3, q4⟩ := J_save (sc := sc) g
  dsimp only at q3
  have ok0 := g.ok (sc := sc)
  simp only [e_L_law_1549, e_L_law_1553, e_L_law_1557, e_L_law_1560, bO_some, bF_I, bF_D, bF_C, bC_v, pk_mul, nI_add, Option.toList, List.cons_append, List.nil_append, bI_t ok0, q1, bI_t q2, q3, zI_0, if_true, if_false, eq_self, not_true_eq_false, not_false_eq_true, reduceCtorEq]
  exact hN _ _ _ _ _ q4
theorem case_restore (hc : ∀ h' t, t < L → ldI sc h' (fun t => t == 0) (aC 0) (nI t) = some (xs t)) (hj : j + 4 ≤ L) (g : INV h i) (hN : ∀ h' v6 v7 v8 dl, INV h' (i + 1) → Win (Run sc n_L_law 1606 [aC 0, aD 0, aD 51, aD 71, aD 72, aI (nI j), v6, v7, v8] dl [] h')) (v6 v7 v8 : AV) (dl : DL) : Win (Run sc n_L_law 1562 [aC 0, aD 0, aD 51, aD 71, aD 72, aI (nI j), v6, v7, v8] dl [] h) := by
  have t1 := fun h' => hc h' (j + 1) (by omega)
  have t2 := fun h' => hc h' (j + 2) (by omega)
  have t3 := fun h' => hc h' (j + 3) (by omega)
  have z0 : (nI 0 = 0) = True := eq_true (by decide)
  obtain ⟨k, b, h1, h2, q1, q2, q3, q4, q5, q6, q7, q8⟩ := J_restore (sc := sc) g 
  dsimp only at q4
  by_cases hk : k = 0
  · subst hk
    have l := q7 rfl
    simp only [e_L_law_1562, e_L_law_1567, e_L_law_1573, e_L_law_1579, e_L_law_1584, e_L_law_1586, e_L_law_1591, e_L_law_1594, e_L_law_1601, e_L_law_1603, bO_some, bF_I, bF_D, bF_C, bC_v, pk_mul, nI_add, Option.toList, List.cons_append, List.nil_append, t1, t2, t3, q1, bI_t q3, q4, bI_t q5, q6, l, z0, lcmp, zI_0, if_true, if_false, eq_self, not_true_eq_false, not_false_eq_true, reduceCtorEq]
    exact hN _ _ _ _ _ q8
  · have hne : ¬ nI k = 0 := nI_n0 (by omega) (by omega)
    simp only [e_L_law_1562, e_L_law_1567, e_L_law_1573, e_L_law_1579, e_L_law_1584, e_L_law_1586, e_L_law_1591, e_L_law_1594, e_L_law_1601, e_L_law_1603, bO_some, bF_I, bF_D, bF_C, bC_v, pk_mul, nI_add, Option.toList, List.cons_append, List.nil_append, t1, t2, t3, q1, bI_t q3, q4, bI_t q5, q6, hne, zI_0, if_true, if_false, eq_self, not_true_eq_false, not_false_eq_true, reduceCtorEq]
    exact hN _ _ _ _ _ q8
end
