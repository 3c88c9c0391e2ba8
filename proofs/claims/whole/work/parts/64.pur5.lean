/-! PURE 5: the class's program grows and shrinks -/
section
variable {sc : SC} {h : AH} {p N n m q : Nat} {f f' : Nat → Int32} {x : Int32}
/-- a source appended to another -/
def apdX (Y : Nat → Nat → Int32) (n : Nat) (X : Nat → Nat → Int32) : Nat → Nat → Nat → Int32
  | 0 => X
  | j + 1 => appX (n + j) (apdX Y n X j) (row (Y j 0) (Y j 1) (Y j 2) (if kBr (kx Y j) = true then nI n + Y j 3 else Y j 3) 0)
theorem l_X6_appendAll {p2 N2 n2 : Nat} {f2 : Nat → Int32} (g : PG h p N n f) (g2 : PG h p2 N2 n2 f2) (hv : VK n2 (xC n2 f2)) (hd : p2 + 1 < p ∨ p + 1 < p2) (hN : (n + n2) * 5 ≤ N) : ∀ d j, j + d = n2 → ∀ f' v4, xC (n + j) f' = apdX (xC n2 f2) n (xC n f) j → ∃ f'', Run sc n_X6_appendAll 7 [aD p, aD p2, aI (nI n), aI (nI j), v4] none [] (pset h p N (n + j) f') = some (.inl none, pset h p N (n + n2) f'') ∧ xC (n + n2) f'' = apdX (xC n2 f2) n (xC n f) n2 := by
  have hN1 := g.2.2.2
  intro d
  induction d with
  | zero =>
    intro j hj f' v4 hf
    have hjn : j = n2 := by omega
    subst hjn
    have g4 := g2.other (N := N) (n := n + j) (f := f') hd
    refine ⟨f', ?_, hf⟩
    simp only [e_X6_appendAll_0, e_X6_appendAll_4, e_X6_appendAll_7, e_X6_appendAll_12, e_X6_appendAll_15, e_X6_appendAll_22, e_X6_appendAll_25, e_X6_appendAll_37, e_X6_appendAll_40, e_X6_appendAll_50, e_X6_appendAll_53, e_X6_appendAll_62, e_X6_appendAll_65, e_X6_appendAll_71, e_X6_appendAll_75, e_X6_appendAll_81, e_X6_appendAll_84, e_X6_appendAll_90, g4.f1, bF_I, nI_le (Nat.le_refl j) (show j < 2 ^ 31 by omega), if_true]
  | succ d ih =>
    intro j hj f' v4 hf
    have g3 := g.to (f' := f') (show (n + j) * 5 ≤ N by omega)
    have g5 := fun f9 => g.to (f' := f9) (show (n + j + 1) * 5 ≤ N by omega)
    have g4 := g2.other (N := N) (n := n + j) (f := f') hd
    have g6 := fun f9 => g2.other (N := N) (n := n + j + 1) (f := f9) hd
    have h1 : ¬ nI n2 ≤ nI j := nI_ge (by omega) (by omega)
    have A := c_X6_appendKind (sc := sc) (x := xC n2 f2 j 0) g3 (by omega)
    rw [pset_pset] at A
    have P := fun (w : Nat) (hw : w < 5) (f1 : Nat → Int32) (y : Int32) => c_put (sc := sc) (f' := f1) (x := y) g (show (n + j + 1) * 5 ≤ N by omega) (show (n + j) * 5 + w < N by omega)
    have R := fun (f9 : Nat → Int32) => bI_t ((g5 f9).ok (sc := sc))
    have R2 := fun (f9 : Nat → Int32) => bI_t ((g6 f9).ok (sc := sc))
    have B := fun (f9 : Nat → Int32) => c_X6_isBranch (sc := sc) (g6 f9) hv (show j < n2 by omega)
    have Q := fun (f9 : Nat → Int32) (w : Nat) (hw : w < 5) => c_X6_part (sc := sc) (g6 f9) (show j < n2 by omega) hw
    have T := fun (f9 : Nat → Int32) => c_X6_target (sc := sc) (g6 f9) (show j < n2 by omega)
    have Z := fun c => ih (j + 1) (by omega) (upd (upd (upd (apK f' (n + j) (xC n2 f2 j 0)) ((n + j) * 5 + 1) (xC n2 f2 j 1)) ((n + j) * 5 + 2) (xC n2 f2 j 2)) ((n + j) * 5 + 3) c) (aI (nI (n + j)))
    rw [e_X6_appendAll_7, g4.f1, bF_I]
    simp only [e_X6_appendAll_0, e_X6_appendAll_4, e_X6_appendAll_12, e_X6_appendAll_15, e_X6_appendAll_22, e_X6_appendAll_25, e_X6_appendAll_37, e_X6_appendAll_40, e_X6_appendAll_50, e_X6_appendAll_53, e_X6_appendAll_62, e_X6_appendAll_65, e_X6_appendAll_71, e_X6_appendAll_75, e_X6_appendAll_81, e_X6_appendAll_84, e_X6_appendAll_90, h1, if_false, bI_t g4.ok, bI_t g3.ok, c_X6_part g4 (show j < n2 by omega) (show 0 < 5 by omega), A, R, R2, B, P 1 (by omega), P 2 (by omega), P 3 (by omega), Q _ 1 (by omega), Q _ 2 (by omega), Q _ 3 (by omega), T, bO_some, bF_I, bF_D, bF_C, bC_v, pk_mul, nI_add, Option.toList, List.cons_append, List.nil_append, zI_0]
    by_cases hb : kBr (kx (xC n2 f2) j) = true
    · simp only [hb, reduceCtorEq, zI_0, if_true, if_false, eq_self, not_true_eq_false, not_false_eq_true, e_X6_appendAll_0, e_X6_appendAll_4, e_X6_appendAll_12, e_X6_appendAll_15, e_X6_appendAll_22, e_X6_appendAll_25, e_X6_appendAll_37, e_X6_appendAll_40, e_X6_appendAll_50, e_X6_appendAll_53, e_X6_appendAll_62, e_X6_appendAll_65, e_X6_appendAll_71, e_X6_appendAll_75, e_X6_appendAll_81, e_X6_appendAll_84, e_X6_appendAll_90, R, R2, T, P 3 (by omega), bO_some, bF_I, bF_D, bF_C, bC_v, pk_mul, nI_add, Option.toList, List.cons_append, List.nil_append]
      refine Z (nI n + xC n2 f2 j 3) ?_
      rw [show n + (j + 1) = n + j + 1 from rfl, xC_row, hf]
      simp only [apdX, hb, if_true]
    · have hb' := hb
      rw [Bool.not_eq_true] at hb'
      simp only [hb', reduceCtorEq, zI_0, if_true, if_false, eq_self, not_true_eq_false, not_false_eq_true, e_X6_appendAll_0, e_X6_appendAll_4, e_X6_appendAll_12, e_X6_appendAll_15, e_X6_appendAll_22, e_X6_appendAll_25, e_X6_appendAll_37, e_X6_appendAll_40, e_X6_appendAll_50, e_X6_appendAll_53, e_X6_appendAll_62, e_X6_appendAll_65, e_X6_appendAll_71, e_X6_appendAll_75, e_X6_appendAll_81, e_X6_appendAll_84, e_X6_appendAll_90, R, R2, Q _ 3 (by omega), P 3 (by omega), bO_some, bF_I, bF_D, bF_C, bC_v, pk_mul, nI_add, Option.toList, List.cons_append, List.nil_append]
      refine Z (xC n2 f2 j 3) ?_
      rw [show n + (j + 1) = n + j + 1 from rfl, xC_row, hf]
      simp only [apdX, hb', reduceCtorEq, if_false]
theorem c_X6_appendAll {p2 N2 n2 : Nat} {f2 : Nat → Int32} (g : PG h p N n f) (g2 : PG h p2 N2 n2 f2) (hv : VK n2 (xC n2 f2)) (hd : p2 + 1 < p ∨ p + 1 < p2) (hN : (n + n2) * 5 ≤ N) : ∃ f'', Call sc n_X6_appendAll [aD p, aD p2] h = some (.inl none, pset h p N (n + n2) f'') ∧ xC (n + n2) f'' = apdX (xC n2 f2) n (xC n f) n2 := by
  have h1 := l_X6_appendAll (sc := sc) g g2 hv hd hN n2 0 (by omega) f aU rfl
  rw [Nat.add_zero, g.self] at h1
  simp only [c0_X6_appendAll, e_X6_appendAll_0, e_X6_appendAll_4, g.f1, bF_I]
  exact h1
/-- a source, expanded -/
def expX (Y : Nat → Nat → Int32) : Nat → Nat → Nat → Int32
  | 0 => fun _ _ => 0
  | j + 1 => if kBr (kx Y j) = true then appX (eoX Y j + 1) (appX (eoX Y j) (expX Y j) (row (Y j 0) (Y j 1) (Y j 2) (nI (eoX Y (Y j 3).toNatClampNeg)) 0)) (row 0 0 0 0 0) else appX (eoX Y j) (expX Y j) (row (Y j 0) (Y j 1) (Y j 2) (Y j 3) 0)
/-- the targets are entries or the end -/
def VT (n : Nat) (X : Nat → Nat → Int32) : Prop := ∀ i, i < n → kBr (kx X i) = true → ∃ t, X i 3 = nI t ∧ t ≤ n
theorem eoX_succ (Y : Nat → Nat → Int32) (j : Nat) : eoX Y (j + 1) = eoX Y j + (if kBr (kx Y j) = true then 2 else 1) := by
  unfold eoX
  simp only [cnt]
  split <;> omega
theorem eoX_le (Y : Nat → Nat → Int32) (j : Nat) : eoX Y j ≤ 2 * j := by
  have := cnt_le j (fun k => kBr (kx Y k))
  unfold eoX
  omega
theorem l_X6_expandFrom {p2 N2 n2 : Nat} {f2 : Nat → Int32} (g : PG h p N n f) (g2 : PG h p2 N2 n2 f2) (hv : VK n2 (xC n2 f2)) (ht : VT n2 (xC n2 f2)) (hd : p2 + 1 < p ∨ p + 1 < p2) (hN : 2 * n2 * 5 ≤ N) : ∀ d j, j + d = n2 → ∀ f' v3, xC (eoX (xC n2 f2) j) f' = expX (xC n2 f2) j → ∃ f'', Run sc n_X6_expandFrom 7 [aD p, aD p2, aI (nI j), v3] none [] (pset h p N (eoX (xC n2 f2) j) f') = some (.inl none, pset h p N (eoX (xC n2 f2) n2) f'') ∧ xC (eoX (xC n2 f2) n2) f'' = expX (xC n2 f2) n2 := by
  have hN1 := g.2.2.2
  intro d
  induction d with
  | zero =>
    intro j hj f' v3 hf
    have hjn : j = n2 := by omega
    subst hjn
    have g4 := g2.other (N := N) (n := eoX (xC j f2) j) (f := f') hd
    refine ⟨f', ?_, hf⟩
    simp only [e_X6_expandFrom_0, e_X6_expandFrom_5, e_X6_expandFrom_7, e_X6_expandFrom_12, e_X6_expandFrom_15, e_X6_expandFrom_22, e_X6_expandFrom_25, e_X6_expandFrom_35, e_X6_expandFrom_38, e_X6_expandFrom_47, e_X6_expandFrom_50, e_X6_expandFrom_59, e_X6_expandFrom_62, e_X6_expandFrom_67, e_X6_expandFrom_70, e_X6_expandFrom_79, e_X6_expandFrom_82, e_X6_expandFrom_85, e_X6_expandFrom_90, e_X6_expandFrom_91, e_X6_expandFrom_97, g4.f1, bF_I, nI_le (Nat.le_refl j) (show j < 2 ^ 31 by omega), if_true]
  | succ d ih =>
    intro j hj f' v3 hf
    have hjn : j < n2 := by omega
    have he := eoX_le (xC n2 f2) j
    have hs := eoX_succ (xC n2 f2) j
    have Z := ih (j + 1) (by omega)
    rw [hs] at Z
    simp only [expX] at Z
    generalize hee : eoX (xC n2 f2) j = e at *
    have g3 := g.to (f' := f') (show e * 5 ≤ N by omega)
    have g5 := fun f9 => g.to (f' := f9) (show (e + 1) * 5 ≤ N by omega)
    have g4 := g2.other (N := N) (n := e) (f := f') hd
    have g6 := fun f9 => g2.other (N := N) (n := e + 1) (f := f9) hd
    have h1 : ¬ nI n2 ≤ nI j := nI_ge (by omega) (by omega)
    have A := c_X6_appendKind (sc := sc) (x := xC n2 f2 j 0) g3 (by omega)
    rw [pset_pset] at A
    have A2 := fun f9 => c_X6_appendKind (sc := sc) (x := nI 0) (g5 f9) (by omega)
    simp only [pset_pset] at A2
    have P := fun (w : Nat) (hw : w < 5) (f1 : Nat → Int32) (y : Int32) => c_put (sc := sc) (f' := f1) (x := y) g (show (e + 1) * 5 ≤ N by omega) (show e * 5 + w < N by omega)
    have R := fun (f9 : Nat → Int32) => bI_t ((g5 f9).ok (sc := sc))
    have R2 := fun (f9 : Nat → Int32) => bI_t ((g6 f9).ok (sc := sc))
    have B := fun (f9 : Nat → Int32) => c_X6_isBranch (sc := sc) (g6 f9) hv hjn
    have Q := fun (f9 : Nat → Int32) (w : Nat) (hw : w < 5) => c_X6_part (sc := sc) (g6 f9) hjn hw
    have T := fun (f9 : Nat → Int32) => c_X6_target (sc := sc) (g6 f9) hjn
    rw [e_X6_expandFrom_7, g4.f1, bF_I]
    simp only [e_X6_expandFrom_0, e_X6_expandFrom_5, e_X6_expandFrom_12, e_X6_expandFrom_15, e_X6_expandFrom_22, e_X6_expandFrom_25, e_X6_expandFrom_35, e_X6_expandFrom_38, e_X6_expandFrom_47, e_X6_expandFrom_50, e_X6_expandFrom_59, e_X6_expandFrom_62, e_X6_expandFrom_67, e_X6_expandFrom_70, e_X6_expandFrom_79, e_X6_expandFrom_82, e_X6_expandFrom_85, e_X6_expandFrom_90, e_X6_expandFrom_91, e_X6_expandFrom_97, h1, if_false, bI_t g4.ok, bI_t g3.ok, c_X6_part g4 hjn (show 0 < 5 by omega), A, R, R2, B, P 1 (by omega), P 2 (by omega), P 3 (by omega), Q _ 1 (by omega), Q _ 2 (by omega), Q _ 3 (by omega), bO_some, bF_I, bF_D, bF_C, bC_v, pk_mul, nI_add, Option.toList, List.cons_append, List.nil_append, zI_0]
    by_cases hb : kBr (kx (xC n2 f2) j) = true
    · obtain ⟨t, ht1, ht2⟩ := ht j hjn hb
      have hn2 := g2.n60
      have E := fun (f9 : Nat → Int32) => c_X6_entryOf (sc := sc) (g6 f9) hv ht2
      simp only [hb, if_true, ht1, nI_clamp (show t < 2 ^ 31 by omega)] at Z
      simp only [hb, reduceCtorEq, zI_0, if_true, if_false, eq_self, not_true_eq_false, not_false_eq_true, e_X6_expandFrom_0, e_X6_expandFrom_5, e_X6_expandFrom_12, e_X6_expandFrom_15, e_X6_expandFrom_22, e_X6_expandFrom_25, e_X6_expandFrom_35, e_X6_expandFrom_38, e_X6_expandFrom_47, e_X6_expandFrom_50, e_X6_expandFrom_59, e_X6_expandFrom_62, e_X6_expandFrom_67, e_X6_expandFrom_70, e_X6_expandFrom_79, e_X6_expandFrom_82, e_X6_expandFrom_85, e_X6_expandFrom_90, e_X6_expandFrom_91, e_X6_expandFrom_97, R, R2, T, ht1, E, A2, P 3 (by omega), bO_some, bF_I, bF_D, bF_C, bC_v, pk_mul, nI_add, Option.toList, List.cons_append, List.nil_append]
      refine Z _ _ ?_
      rw [show e + 2 = e + 1 + 1 from rfl, xC_apK]
      congr 1
      rw [← hf, ← xC_row]
      congr 1
      funext k
      simp only [upd_eq]
      by_cases hk : k = e * 5 + 3
      · rw [if_pos hk, if_pos hk]
      · rw [if_neg hk, if_neg hk, if_neg hk]
    · have hb' := hb
      rw [Bool.not_eq_true] at hb'
      simp only [hb', reduceCtorEq, if_false] at Z
      simp only [hb', reduceCtorEq, zI_0, if_true, if_false, eq_self, not_true_eq_false, not_false_eq_true, e_X6_expandFrom_0, e_X6_expandFrom_5, e_X6_expandFrom_12, e_X6_expandFrom_15, e_X6_expandFrom_22, e_X6_expandFrom_25, e_X6_expandFrom_35, e_X6_expandFrom_38, e_X6_expandFrom_47, e_X6_expandFrom_50, e_X6_expandFrom_59, e_X6_expandFrom_62, e_X6_expandFrom_67, e_X6_expandFrom_70, e_X6_expandFrom_79, e_X6_expandFrom_82, e_X6_expandFrom_85, e_X6_expandFrom_90, e_X6_expandFrom_91, e_X6_expandFrom_97, nI_add]
      refine Z _ _ ?_
      rw [xC_row, hf]
theorem c_X6_expandFrom {p2 N2 n2 : Nat} {f2 : Nat → Int32} (g : PG h p N n f) (g2 : PG h p2 N2 n2 f2) (hv : VK n2 (xC n2 f2)) (ht : VT n2 (xC n2 f2)) (hd : p2 + 1 < p ∨ p + 1 < p2) (hN : 2 * n2 * 5 ≤ N) : ∃ f'', Call sc n_X6_expandFrom [aD p, aD p2] h = some (.inl none, pset h p N (eoX (xC n2 f2) n2) f'') ∧ xC (eoX (xC n2 f2) n2) f'' = expX (xC n2 f2) n2 := by
  have h1 := l_X6_expandFrom (sc := sc) g g2 hv ht hd hN n2 0 (by omega) f aU (by
    funext i w
    unfold xC nm
    rw [if_neg (by show ¬ (i < 0 ∧ w < 5); omega)]
    rfl)
  simp only [c0_X6_expandFrom, e_X6_expandFrom_0, e_X6_expandFrom_5, g.pf, bO_some]
  exact h1
/-- an entry is taken away: the rest moves up, targets behind it go down -/
def rmX (e : Nat) (X : Nat → Nat → Int32) : Nat → Nat → Int32 := fun i w => if i < e then X i w else X (i + 1) w
def dnX (e : Nat) (X : Nat → Nat → Int32) (j : Nat) : Nat → Nat → Int32 := fun i w => if i < j ∧ w = 3 ∧ kBr (kx X i) = true ∧ ¬ X i 3 ≤ nI e then X i 3 - nI 1 else X i w
theorem kx_dn (e : Nat) (X : Nat → Nat → Int32) (j i : Nat) : kx (dnX e X j) i = kx X i := by
  unfold kx dnX
  rw [if_neg (by omega)]
theorem dn_3 (e : Nat) (X : Nat → Nat → Int32) (j : Nat) : dnX e X j j 3 = X j 3 := by
  unfold dnX
  rw [if_neg (by omega)]
theorem VK_dn {e n j : Nat} {X : Nat → Nat → Int32} (hv : VK n X) : VK n (dnX e X j) := by
  intro i hi
  rw [kx_dn]
  obtain ⟨h1, h2⟩ := hv i hi
  refine ⟨?_, h2⟩
  unfold dnX
  rw [if_neg (by omega)]
  exact h1
theorem VK_rm {e n : Nat} {X : Nat → Nat → Int32} (hv : VK n X) : VK (n - 1) (rmX e X) := by
  intro i hi
  unfold rmX kx
  simp only
  by_cases h1 : i < e
  · simp only [h1, if_true]
    exact hv i (by omega)
  · simp only [h1, if_false]
    exact hv (i + 1) (by omega)
theorem xC_rm {n e : Nat} (he : e < n) : xC (n - 1) (cpy f f ((e + 1) * 5) (e * 5) (n * 5 - (e + 1) * 5)) = rmX e (xC n f) := by
  funext i w
  show (if i < n - 1 ∧ w < 5 then cpy f f ((e + 1) * 5) (e * 5) (n * 5 - (e + 1) * 5) (i * 5 + w) else 0) = if i < e then (if i < n ∧ w < 5 then f (i * 5 + w) else 0) else (if i + 1 < n ∧ w < 5 then f ((i + 1) * 5 + w) else 0)
  by_cases h1 : i < n - 1 ∧ w < 5
  · rw [if_pos h1, cpy_eq]
    by_cases h2 : i < e
    · rw [if_neg (by omega), if_pos h2, if_pos (by omega)]
    · rw [if_pos (by omega), if_neg h2, if_pos (by omega)]
      congr 1
      omega
  · rw [if_neg h1]
    by_cases h2 : i < e
    · rw [if_pos h2, if_neg (by omega)]
    · rw [if_neg h2, if_neg (by omega)]
theorem dn_skip {e j : Nat} {X : Nat → Nat → Int32} (hh : ¬ (kBr (kx X j) = true ∧ ¬ X j 3 ≤ nI e)) : dnX e X (j + 1) = dnX e X j := by
  funext i w
  unfold dnX
  by_cases h1 : i < j ∧ w = 3 ∧ kBr (kx X i) = true ∧ ¬ X i 3 ≤ nI e
  · rw [if_pos h1, if_pos ⟨by omega, h1.2⟩]
  · rw [if_neg h1, if_neg]
    intro h2
    by_cases h3 : i = j
    · subst h3
      exact hh h2.2.2
    · exact h1 ⟨by omega, h2.2⟩
theorem dn_hit {e j : Nat} {X : Nat → Nat → Int32} (hh : kBr (kx X j) = true ∧ ¬ X j 3 ≤ nI e) : dnX e X (j + 1) = ptX (dnX e X j) j 3 (X j 3 - nI 1) := by
  funext i w
  unfold ptX
  by_cases h3 : i = j ∧ w = 3
  · rw [if_pos h3]
    obtain ⟨rfl, rfl⟩ := h3
    unfold dnX
    rw [if_pos ⟨by omega, rfl, hh⟩]
  · rw [if_neg h3]
    unfold dnX
    by_cases h1 : i < j ∧ w = 3 ∧ kBr (kx X i) = true ∧ ¬ X i 3 ≤ nI e
    · rw [if_pos h1, if_pos ⟨by omega, h1.2⟩]
    · rw [if_neg h1, if_neg]
      intro h2
      exact h1 ⟨by have := h2.1; have := h2.2.1; omega, h2.2⟩
theorem l_X6_remove (g : PG h p N n f) {e : Nat} {v2 : Int32} {R : Nat → Nat → Int32} (hm : m * 5 ≤ N) (hv : VK m R) : ∀ d j, j + d = m → ∀ f', xC m f' = dnX e R j → ∃ f'', Run sc n_X6_remove 41 [aD p, aI (nI e), aI v2, aI (nI j)] none [] (pset h p N m f') = some (.inl none, pset h p N m f'') ∧ xC m f'' = dnX e R m := by
  have hN1 := g.2.2.2
  intro d
  induction d with
  | zero =>
    intro j hj f' hf
    have hjn : j = m := by omega
    subst hjn
    have g4 := g.to (f' := f') hm
    refine ⟨f', ?_, hf⟩
    simp only [e_X6_remove_0, e_X6_remove_10, e_X6_remove_15, e_X6_remove_22, e_X6_remove_29, e_X6_remove_34, e_X6_remove_39, e_X6_remove_41, e_X6_remove_46, e_X6_remove_49, e_X6_remove_54, e_X6_remove_57, e_X6_remove_62, e_X6_remove_66, e_X6_remove_74, e_X6_remove_79, e_X6_remove_85, g4.f1, bF_I, nI_le (Nat.le_refl j) (show j < 2 ^ 31 by omega), if_true]
  | succ d ih =>
    intro j hj f' hf
    have g4 := g.to (f' := f') hm
    have h1 : ¬ nI m ≤ nI j := nI_ge (by omega) (by omega)
    have hjn : j < m := by omega
    have B := c_X6_isBranch (sc := sc) g4 (by rw [hf]; exact VK_dn hv) hjn
    have T := c_X6_target (sc := sc) g4 hjn
    rw [hf, kx_dn] at B
    rw [hf, dn_3] at T
    rw [e_X6_remove_41, g4.f1, bF_I]
    simp only [e_X6_remove_0, e_X6_remove_10, e_X6_remove_15, e_X6_remove_22, e_X6_remove_29, e_X6_remove_34, e_X6_remove_39, e_X6_remove_46, e_X6_remove_49, e_X6_remove_54, e_X6_remove_57, e_X6_remove_62, e_X6_remove_66, e_X6_remove_74, e_X6_remove_79, e_X6_remove_85, h1, if_false, bI_t g4.ok, B, bO_some, bF_I, bF_D, bF_C, bC_v, pk_mul, nI_add, Option.toList, List.cons_append, List.nil_append, zI_0]
    by_cases hb : kBr (kx R j) = true
    · by_cases ht : R j 3 ≤ nI e
      · have Z := ih (j + 1) (by omega) f' (by rw [hf, dn_skip (fun z => z.2 ht)])
        simp only [hb, reduceCtorEq, zI_0, if_true, if_false, eq_self, not_true_eq_false, not_false_eq_true, e_X6_remove_0, e_X6_remove_10, e_X6_remove_15, e_X6_remove_22, e_X6_remove_29, e_X6_remove_34, e_X6_remove_39, e_X6_remove_46, e_X6_remove_49, e_X6_remove_54, e_X6_remove_57, e_X6_remove_62, e_X6_remove_66, e_X6_remove_74, e_X6_remove_79, e_X6_remove_85, bI_t g4.ok, T, bO_some, bF_I, bF_D, bF_C, bC_v, pk_mul, nI_add, Option.toList, List.cons_append, List.nil_append, ht]
        exact Z
      · have P := c_put (sc := sc) (f' := f') (x := R j 3 - nI 1) g hm (show j * 5 + 3 < N by omega)
        have Z := ih (j + 1) (by omega) (upd f' (j * 5 + 3) (R j 3 - nI 1)) (by rw [xC_upd hjn (by omega), hf, dn_hit ⟨hb, ht⟩])
        simp only [hb, reduceCtorEq, zI_0, if_true, if_false, eq_self, not_true_eq_false, not_false_eq_true, e_X6_remove_0, e_X6_remove_10, e_X6_remove_15, e_X6_remove_22, e_X6_remove_29, e_X6_remove_34, e_X6_remove_39, e_X6_remove_46, e_X6_remove_49, e_X6_remove_54, e_X6_remove_57, e_X6_remove_62, e_X6_remove_66, e_X6_remove_74, e_X6_remove_79, e_X6_remove_85, bI_t g4.ok, T, bO_some, bF_I, bF_D, bF_C, bC_v, pk_mul, nI_add, Option.toList, List.cons_append, List.nil_append, ht, P]
        exact Z
    · have hb' := hb
      rw [Bool.not_eq_true] at hb'
      have Z := ih (j + 1) (by omega) f' (by rw [hf, dn_skip (fun z => hb z.1)])
      simp only [hb', reduceCtorEq, zI_0, if_true, if_false, eq_self, not_true_eq_false, not_false_eq_true, e_X6_remove_0, e_X6_remove_10, e_X6_remove_15, e_X6_remove_22, e_X6_remove_29, e_X6_remove_34, e_X6_remove_39, e_X6_remove_46, e_X6_remove_49, e_X6_remove_54, e_X6_remove_57, e_X6_remove_62, e_X6_remove_66, e_X6_remove_74, e_X6_remove_79, e_X6_remove_85, bO_some, bF_I, bF_D, bF_C, bC_v, pk_mul, nI_add, Option.toList, List.cons_append, List.nil_append]
      exact Z
theorem c_X6_remove (g : PG h p N n f) (hv : VK n (xC n f)) {e : Nat} (he : e < n) : ∃ f'', Call sc n_X6_remove [aD p, aI (nI e)] h = some (.inl none, pset h p N (n - 1) f'') ∧ xC (n - 1) f'' = dnX e (rmX e (xC n f)) (n - 1) := by
  have hN1 := g.2.2.2
  have hN2 := g.2.2.1
  have g1 := g.to (m := n) (f' := cpy f f ((e + 1) * 5) (e * 5) (n * 5 - (e + 1) * 5)) hN2
  have hc : copyA sc h (aD (p + 1)) (nI ((e + 1) * 5)) (p + 1) (nI (e * 5)) (nI (n * 5 - (e + 1) * 5)) = some (pset h p N n (cpy f f ((e + 1) * 5) (e * 5) (n * 5 - (e + 1) * 5))) := by
    unfold copyA oget
    simp only [g.2.1]
    rw [nI_clamp (show (e + 1) * 5 < 2 ^ 31 by omega), nI_clamp (show e * 5 < 2 ^ 31 by omega), nI_clamp (show n * 5 - (e + 1) * 5 < 2 ^ 31 by omega), if_pos ⟨trivial, Or.inr ⟨trivial, trivial⟩, nI_pos (by omega), nI_pos (by omega), nI_pos (by omega), by omega, by omega, rfl⟩]
    show some (hset h (p + 1) (oI 0 N _)) = _
    unfold pset
    rw [hset_self g.1]
  have hd0 : ∀ R : Nat → Nat → Int32, dnX e R 0 = R := by
    intro R
    funext i w
    unfold dnX
    rw [if_neg (by omega)]
  obtain ⟨f'', h1, h2⟩ := l_X6_remove (sc := sc) g (e := e) (v2 := nI ((e + 1) * 5)) (show (n - 1) * 5 ≤ N by omega) (VK_rm (e := e) hv) (n - 1) 0 (by omega) _ ((xC_rm he).trans (hd0 _).symm)
  refine ⟨f'', ?_, h2⟩
  have hp := g1.pf (m := n - 1)
  rw [pset_pset] at hp
  simp only [c0_X6_remove, e_X6_remove_0, e_X6_remove_10, e_X6_remove_15, e_X6_remove_22, e_X6_remove_29, e_X6_remove_34, e_X6_remove_39, g.f0, g.f1, bO_some, bF_I, bF_D, bF_C, bC_v, pk_mul, nI_add, Option.toList, List.cons_append, List.nil_append, pk_sub (show (e + 1) * 5 ≤ n * 5 by omega), hc, g1.f1, pk_sub (show 1 ≤ n by omega), hp]
  exact h1
end
