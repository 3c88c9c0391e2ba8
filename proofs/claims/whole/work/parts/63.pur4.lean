/-! PURE 4: the class's program, written -/
theorem hset_self {h : AH} {p : Nat} {o : AO} (e : hget h p = some o) : hset h p o = h := by
  obtain ⟨l, m⟩ := h
  show (l.set p o, m) = (l, m)
  have e' : l[p]? = some o := e
  obtain ⟨h1, h2⟩ := List.getElem?_eq_some_iff.mp e'
  rw [← h2, List.set_getElem_self]
/-- the heap where the program p has the size n and the row f -/
def pset (h : AH) (p N n : Nat) (f : Nat → Int32) : AH := hset (hset h p (oO 8 [aD (p + 1), aI (nI n)])) (p + 1) (oI 0 N f)
section
variable {sc : SC} {h : AH} {p N n m q : Nat} {f f' : Nat → Int32} {x : Int32}
theorem pset_ne (h1 : ¬ q = p) (h2 : ¬ q = p + 1) : hget (pset h p N n f) q = hget h q := by
  unfold pset
  rw [hget_ne h2, hget_ne h1]
theorem pset_pset : pset (pset h p N n f) p N m f' = pset h p N m f' := by
  unfold pset
  rw [hset_comm (p := p + 1) (q := p) (by omega), hset_hset, hset_hset]
theorem PG.self (g : PG h p N n f) : pset h p N n f = h := by
  unfold pset
  rw [hset_self g.1, hset_self g.2.1]
theorem PG.to (g : PG h p N n f) (hm : m * 5 ≤ N) : PG (pset h p N m f') p N m f' := by
  have h1 : hget (hset h p (oO 8 [aD (p + 1), aI (nI m)])) (p + 1) = some (oI 0 N f) := by
    rw [hget_ne (by omega)]
    exact g.2.1
  refine ⟨?_, ?_, hm, g.2.2.2⟩
  · unfold pset
    rw [hget_ne (by omega)]
    exact hget_set g.1
  · unfold pset
    exact hget_set h1
theorem PG.other {p2 N2 n2 : Nat} {f2 : Nat → Int32} (g2 : PG h p2 N2 n2 f2) (h1 : p2 + 1 < p ∨ p + 1 < p2) : PG (pset h p N n f) p2 N2 n2 f2 := by
  refine ⟨?_, ?_, g2.2.2⟩
  · rw [pset_ne (q := p2) (by omega) (by omega)]
    exact g2.1
  · rw [pset_ne (q := p2 + 1) (by omega) (by omega)]
    exact g2.2.1
theorem PG.st (g : PG h p N n f) {j : Nat} (hj : j < N) : stI h (fun t => t == 0) (p + 1) (nI j) x = some (pset h p N n (upd f j x)) := by
  rw [stI_D g.2.1 rfl hj (by have := g.2.2.2; omega)]
  show some (hset h (p + 1) (oI 0 N (upd f j x))) = _
  unfold pset
  rw [hset_self g.1]
theorem PG.pf (g : PG h p N n f) : putF h p 8 1 0 (aI (nI m)) = some (pset h p N m f) := by
  rw [putF_D g.1 (show 1 < 2 by decide) rfl]
  unfold pset
  rw [hset_self (h := hset h p (oO 8 [aD (p + 1), aI (nI m)])) (by rw [hget_ne (by omega)]; exact g.2.1)]
  rfl
theorem c_X6_put (g : PG h p N n f) {i w : Nat} (hj : i * 5 + w < N) : Call sc n_X6_put [aD p, aI (nI i), aI (nI w), aI x] h = some (.inl none, pset h p N n (upd f (i * 5 + w) x)) := by
  simp only [c0_X6_put, e_X6_put_0, e_X6_put_4, e_X6_put_11, g.f0, bO_some, bF_I, bF_D, bF_C, bC_v, pk_mul, nI_add, Option.toList, List.cons_append, List.nil_append, g.st hj]
theorem c_put (g : PG h p N n f) (hm : m * 5 ≤ N) {i w : Nat} (hj : i * 5 + w < N) : Call sc n_X6_put [aD p, aI (nI i), aI (nI w), aI x] (pset h p N m f') = some (.inl none, pset h p N m (upd f' (i * 5 + w) x)) := by
  rw [c_X6_put (g.to hm) hj, pset_pset]
/-- a row of five in a program's row -/
def apK (f : Nat → Int32) (n : Nat) (x : Int32) : Nat → Int32 := upd (upd (upd (upd (upd (upd f (n * 5 + 0) (nI 0)) (n * 5 + 1) (nI 0)) (n * 5 + 2) (nI 0)) (n * 5 + 3) (nI 0)) (n * 5 + 4) (nI 0)) (n * 5 + 0) x
theorem c_X6_appendKind (g : PG h p N n f) (hn : n * 5 + 5 ≤ N) : Call sc n_X6_appendKind [aD p, aI x] h = some (.inl (some (aI (nI n))), pset h p N (n + 1) (apK f n x)) := by
  have hm : (n + 1) * 5 ≤ N := by omega
  have P := fun (w : Nat) (hw : w < 5) (f1 : Nat → Int32) (y : Int32) => c_put (sc := sc) (f' := f1) (x := y) g hm (show n * 5 + w < N by omega)
  have hr : rOK sc (pset h p N (n + 1) f) (aD p) 8 = true := (g.to hm).ok
  have R := fun (f1 : Nat → Int32) => bI_t ((g.to (f' := f1) hm).ok (sc := sc))
  simp only [c0_X6_appendKind, e_X6_appendKind_0, e_X6_appendKind_4, e_X6_appendKind_10, e_X6_appendKind_15, e_X6_appendKind_17, e_X6_appendKind_22, e_X6_appendKind_29, e_X6_appendKind_35, e_X6_appendKind_42, g.f1, bO_some, bF_I, bF_D, bF_C, bC_v, pk_mul, nI_add, Option.toList, List.cons_append, List.nil_append, g.pf, R, P 0 (by omega), P 1 (by omega), P 2 (by omega), P 3 (by omega), P 4 (by omega), show ¬ nI 5 ≤ nI 0 from by decide, show ¬ nI 5 ≤ nI 1 from by decide, show ¬ nI 5 ≤ nI 2 from by decide, show ¬ nI 5 ≤ nI 3 from by decide, show ¬ nI 5 ≤ nI 4 from by decide, show nI 5 ≤ nI 5 from by decide, Nat.reduceAdd, zI_0, if_true, if_false, eq_self, not_true_eq_false, not_false_eq_true]
  rfl
theorem c_X6_copyFrom {p2 N2 n2 : Nat} {f2 : Nat → Int32} (g : PG h p N n f) (g2 : PG h p2 N2 n2 f2) (hd : p2 + 1 < p ∨ p + 1 < p2) (hN : n2 * 5 ≤ N) : Call sc n_X6_copyFrom [aD p, aD p2] h = some (.inl none, pset h p N n2 (cpy f2 f 0 0 (n2 * 5))) := by
  have g3 := g.to (f' := f) hN
  have g4 := g2.other (N := N) (n := n2) (f := f) hd
  have hN1 := g.2.2.2
  have hN2 := g2.2.2.1
  have hN3 := g2.2.2.2
  have hc : copyA sc (pset h p N n2 f) (aD (p2 + 1)) (nI 0) (p + 1) (nI 0) (nI (n2 * 5)) = some (pset h p N n2 (cpy f2 f 0 0 (n2 * 5))) := by
    unfold copyA oget
    simp only [g3.2.1, g4.2.1]
    rw [nI_clamp (show n2 * 5 < 2 ^ 31 by omega), if_pos ⟨trivial, Or.inr ⟨trivial, trivial⟩, by decide, by decide, nI_pos (by omega), by show 0 + n2 * 5 ≤ N2; omega, by show 0 + n2 * 5 ≤ N; omega, rfl⟩]
    show some (hset (pset h p N n2 f) (p + 1) (oI 0 N (cpy f2 f 0 0 (n2 * 5)))) = _
    unfold pset
    rw [hset_hset]
  simp only [c0_X6_copyFrom, e_X6_copyFrom_0, e_X6_copyFrom_5, e_X6_copyFrom_8, e_X6_copyFrom_12, e_X6_copyFrom_17, e_X6_copyFrom_22, e_X6_copyFrom_27, g2.f1, bO_some, bF_I, bF_D, bF_C, bC_v, pk_mul, nI_add, Option.toList, List.cons_append, List.nil_append, g.pf, g4.f0, g3.f0, g3.f1, hc]
theorem c_X6_copyInstruction (g : PG h p N n f) {i j : Nat} (hi : i < n) (hj : j < n) : Call sc n_X6_copyInstruction [aD p, aI (nI i), aI (nI j)] h = some (.inl none, pset h p N n (cpy f f (i * 5) (j * 5) 5)) := by
  have hN1 := g.2.2.2
  have hN2 := g.2.2.1
  have hc : copyA sc h (aD (p + 1)) (nI (i * 5)) (p + 1) (nI (j * 5)) (nI 5) = some (pset h p N n (cpy f f (i * 5) (j * 5) 5)) := by
    unfold copyA oget
    simp only [g.2.1]
    rw [nI_clamp (show i * 5 < 2 ^ 31 by omega), nI_clamp (show j * 5 < 2 ^ 31 by omega), if_pos ⟨trivial, Or.inr ⟨trivial, trivial⟩, nI_pos (by omega), nI_pos (by omega), by decide, by show i * 5 + 5 ≤ N; omega, by show j * 5 + 5 ≤ N; omega, rfl⟩]
    show some (hset h (p + 1) (oI 0 N (cpy f f (i * 5) (j * 5) 5))) = _
    unfold pset
    rw [hset_self g.1]
  simp only [c0_X6_copyInstruction, e_X6_copyInstruction_0, e_X6_copyInstruction_4, e_X6_copyInstruction_11, e_X6_copyInstruction_18, g.f0, bO_some, bF_I, bF_D, bF_C, bC_v, pk_mul, nI_add, Option.toList, List.cons_append, List.nil_append, hc]
end
/-! how the numbers change -/
def ptX (X : Nat → Nat → Int32) (i w : Nat) (x : Int32) : Nat → Nat → Int32 := fun i' w' => if i' = i ∧ w' = w then x else X i' w'
def appX (n : Nat) (X : Nat → Nat → Int32) (K : Nat → Int32) : Nat → Nat → Int32 := fun i w => if i = n then (if w < 5 then K w else 0) else X i w
def row (k a b c z : Int32) : Nat → Int32 := fun w => if w = 0 then k else if w = 1 then a else if w = 2 then b else if w = 3 then c else if w = 4 then z else 0
theorem upd_eq (f : Nat → Int32) (a : Nat) (x : Int32) (j : Nat) : upd f a x j = if j = a then x else f j := rfl
theorem xC_upd {n i w : Nat} {f : Nat → Int32} {x : Int32} (hi : i < n) (hw : w < 5) : xC n (upd f (i * 5 + w) x) = ptX (xC n f) i w x := by
  funext i' w'
  unfold xC nm ptX
  simp only [upd_eq]
  by_cases h1 : i' < n ∧ w' < 5
  · by_cases h2 : i' = i ∧ w' = w
    · rw [if_pos h1, if_pos h2, if_pos (by obtain ⟨rfl, rfl⟩ := h2; rfl)]
    · rw [if_pos h1, if_neg h2, if_neg (by omega), if_pos h1]
  · rw [if_neg h1, if_neg (by omega), if_neg h1]
theorem xC_row {n : Nat} {f : Nat → Int32} {k a b c : Int32} : xC (n + 1) (upd (upd (upd (apK f n k) (n * 5 + 1) a) (n * 5 + 2) b) (n * 5 + 3) c) = appX n (xC n f) (row k a b c 0) := by
  funext i w
  unfold xC nm appX row apK
  simp only [upd_eq]
  by_cases h1 : i = n
  · subst h1
    by_cases h2 : w < 5
    · have h3 : w = 0 ∨ w = 1 ∨ w = 2 ∨ w = 3 ∨ w = 4 := by omega
      rcases h3 with rfl | rfl | rfl | rfl | rfl <;> simp [nI]
    · rw [if_neg (by omega), if_pos rfl, if_neg h2]
  · rw [if_neg h1]
    by_cases h2 : i < n ∧ w < 5
    · rw [if_pos (by omega), if_pos h2]
      repeat rw [if_neg (by omega)]
    · rw [if_neg (by omega), if_neg h2]
theorem xC_apK {n : Nat} {f : Nat → Int32} {k : Int32} : xC (n + 1) (apK f n k) = appX n (xC n f) (row k 0 0 0 0) := by
  funext i w
  unfold xC nm appX row apK
  simp only [upd_eq]
  by_cases h1 : i = n
  · subst h1
    by_cases h2 : w < 5
    · have h3 : w = 0 ∨ w = 1 ∨ w = 2 ∨ w = 3 ∨ w = 4 := by omega
      rcases h3 with rfl | rfl | rfl | rfl | rfl <;> simp [nI]
    · rw [if_neg (by omega), if_pos rfl, if_neg h2]
  · rw [if_neg h1]
    by_cases h2 : i < n ∧ w < 5
    · rw [if_pos (by omega), if_pos h2]
      repeat rw [if_neg (by omega)]
    · rw [if_neg (by omega), if_neg h2]
theorem cpy_eq (f g : Nat → Int32) (sp dp n k : Nat) : cpy f g sp dp n k = if dp ≤ k ∧ k < dp + n then f (sp + (k - dp)) else g k := rfl
theorem xC_cpy0 {n : Nat} {f g : Nat → Int32} : xC n (cpy f g 0 0 (n * 5)) = xC n f := by
  funext i w
  unfold xC nm
  by_cases h1 : i < n ∧ w < 5
  · rw [if_pos h1, if_pos h1]
    show cpy f g 0 0 (n * 5) (i * 5 + w) = f (i * 5 + w)
    rw [cpy_eq, if_pos (by omega)]
    congr 1
    omega
  · rw [if_neg h1, if_neg h1]
theorem xC_cpyI {n i j : Nat} {f : Nat → Int32} (hi : i < n) (hj : j < n) : xC n (cpy f f (i * 5) (j * 5) 5) = fun a w => if a = j then xC n f i w else xC n f a w := by
  funext a w
  unfold xC nm
  by_cases h1 : a < n ∧ w < 5
  · rw [if_pos h1]
    show cpy f f (i * 5) (j * 5) 5 (a * 5 + w) = if a = j then if i < n ∧ w < 5 then f (i * 5 + w) else 0 else if a < n ∧ w < 5 then f (a * 5 + w) else 0
    rw [cpy_eq]
    by_cases h2 : a = j
    · rw [if_pos (by omega), if_pos h2, if_pos (by omega)]
      congr 1
      omega
    · rw [if_neg (by omega), if_neg h2, if_pos h1]
  · rw [if_neg h1]
    by_cases h2 : a = j
    · rw [if_pos h2, if_neg (by omega)]
    · rw [if_neg h2, if_neg h1]
