/-! PURE 15: a machine -/
theorem and_nI (x : Int32) {m : Nat} (hm : m < 2 ^ 31) : ∃ k, k ≤ m ∧ x &&& nI m = nI k := by
  refine ⟨(x.toBitVec &&& BitVec.ofNat 32 m).toNat, ?_, ?_⟩
  · rw [BitVec.toNat_and, BitVec.toNat_ofNat, Nat.mod_eq_of_lt (by omega)]
    exact Nat.and_le_right
  · apply Int32.toBitVec_inj.mp
    rw [Int32.toBitVec_and]
    show x.toBitVec &&& BitVec.ofNat 32 m = BitVec.ofNat 32 _
    rw [BitVec.ofNat_toNat, BitVec.setWidth_eq]
def rg (X : Nat → Nat → Int32) (i w : Nat) : Nat := (X i w).toNatClampNeg
def cell (X : Nat → Nat → Int32) (v : Nat → Int32) (i : Nat) : Nat := 8 + ((v (rg X i 2) + X i 3) &&& nI 15).toNatClampNeg
/-- registers are numbers below 8 -/
def VG (n : Nat) (X : Nat → Nat → Int32) : Prop := (∀ i, i < n → ∃ a b, X i 1 = nI a ∧ a < 8 ∧ X i 2 = nI b ∧ b < 8) ∧ (∀ i, i < n → kRC (kx X i) = true → ∃ c, X i 3 = nI c ∧ c < 8)
def pfV (X : Nat → Nat → Int32) (i : Nat) (v : Nat → Int32) : Nat → Int32 :=
  if kx X i = 1 then upd v (rg X i 1) (X i 3)
  else if kx X i = 2 then upd v (rg X i 1) (v (rg X i 2))
  else if kx X i = 3 then upd v (rg X i 1) (v (rg X i 2) + v (rg X i 3))
  else if kx X i = 4 then upd v (rg X i 1) (v (rg X i 2) - v (rg X i 3))
  else if kx X i = 5 then upd v (rg X i 1) (v (cell X v i))
  else if kx X i = 6 then upd v (cell X v i) (v (rg X i 1))
  else v
def pfO (X : Nat → Nat → Int32) (i : Nat) (v o : Nat → Int32) (m : Nat) : Nat → Int32 := if kx X i = 7 then upd o m (v (rg X i 1)) else o
def pfN (X : Nat → Nat → Int32) (i m : Nat) : Nat := if kx X i = 7 then m + 1 else m
def tkX (X : Nat → Nat → Int32) (i : Nat) (v : Nat → Int32) : Bool := if kCo (kx X i) = true then (if kx X i = 8 then decide (v (rg X i 1) = v (rg X i 2)) else decide (v (rg X i 1) < v (rg X i 2))) else true
/-- a machine's object p, with its two rows -/
def MA (h : AH) (p : Nat) (v : Nat → Int32) (No : Nat) (o : Nat → Int32) (m st : Nat) : Prop := hget h p = some (oO 7 [aD (p + 1), aD (p + 2), aI (nI m), aI (nI st)]) ∧ hget h (p + 1) = some (oI 0 24 v) ∧ hget h (p + 2) = some (oI 0 No o) ∧ No ≤ 2000
def mset (h : AH) (p : Nat) (v : Nat → Int32) (No : Nat) (o : Nat → Int32) (m st : Nat) : AH := hset (hset (hset h p (oO 7 [aD (p + 1), aD (p + 2), aI (nI m), aI (nI st)])) (p + 1) (oI 0 24 v)) (p + 2) (oI 0 No o)
section
variable {sc : SC} {h h' : AH} {p q N n i j No m st m' st' : Nat} {f v o v' o' : Nat → Int32} {x : Int32} {S : Nat → Prop}
theorem mset_ne (h0 : ¬ j = p) (h1 : ¬ j = p + 1) (h2 : ¬ j = p + 2) : hget (mset h p v No o m st) j = hget h j := by
  unfold mset
  rw [hget_ne h2, hget_ne h1, hget_ne h0]
theorem mset_mset : mset (mset h p v No o m st) p v' No o' m' st' = mset h p v' No o' m' st' := by
  unfold mset
  rw [hset_comm (p := p + 2) (q := p) (by omega), hset_comm (p := p + 1) (q := p) (by omega), hset_hset, hset_comm (p := p + 2) (q := p + 1) (by omega), hset_hset, hset_hset]
theorem MA.self (g : MA h p v No o m st) : mset h p v No o m st = h := by
  unfold mset
  rw [hset_self g.1, hset_self g.2.1, hset_self g.2.2.1]
theorem MA.to (g : MA h p v No o m st) : MA (mset h p v' No o' m' st') p v' No o' m' st' := by
  refine ⟨?_, ?_, ?_, g.2.2.2⟩
  · unfold mset
    rw [hget_ne (by omega), hget_ne (by omega)]
    exact hget_set g.1
  · unfold mset
    rw [hget_ne (by omega)]
    exact hget_set (o' := oI 0 24 v) (by rw [hget_ne (by omega)]; exact g.2.1)
  · unfold mset
    exact hget_set (o' := oI 0 No o) (by rw [hget_ne (by omega), hget_ne (by omega)]; exact g.2.2.1)
theorem MA.fr (g : MA h p v No o m st) : Fr (fun x => x = p ∨ x = p + 1 ∨ x = p + 2) h (mset h p v' No o' m' st') := by
  unfold mset
  refine (((fr_set (o := oO 7 [aD (p + 1), aD (p + 2), aI (nI m'), aI (nI st')]) g.1 rfl).mono (fun _ z => Or.inl z)).trans ((fr_set (o := oI 0 24 v') (o' := oI 0 24 v) ?_ rfl).mono (fun _ z => Or.inr (Or.inl z)))).trans ((fr_set (o := oI 0 No o') (o' := oI 0 No o) ?_ rfl).mono (fun _ z => Or.inr (Or.inr z)))
  · rw [hget_ne (by omega)]
    exact g.2.1
  · rw [hget_ne (by omega), hget_ne (by omega)]
    exact g.2.2.1
theorem MA.keep (g : MA h p v No o m st) (hf : Fr S h h') (h0 : ¬ S p) (h1 : ¬ S (p + 1)) (h2 : ¬ S (p + 2)) : MA h' p v No o m st := ⟨(hf.2.2.1 _ h0).trans g.1, (hf.2.2.1 _ h1).trans g.2.1, (hf.2.2.1 _ h2).trans g.2.2.1, g.2.2.2⟩
theorem MA.f0 (g : MA h p v No o m st) : getF sc h (aD p) 7 0 = some (aD (p + 1)) := getF_D g.1 rfl
theorem MA.f1 (g : MA h p v No o m st) : getF sc h (aD p) 7 1 = some (aD (p + 2)) := getF_D g.1 rfl
theorem MA.f2 (g : MA h p v No o m st) : getF sc h (aD p) 7 2 = some (aI (nI m)) := getF_D g.1 rfl
theorem MA.f3 (g : MA h p v No o m st) : getF sc h (aD p) 7 3 = some (aI (nI st)) := getF_D g.1 rfl
theorem MA.ok (g : MA h p v No o m st) : rOK sc h (aD p) 7 = true := rOK_D g.1
theorem MA.l1 (g : MA h p v No o m st) (hj : j < 24) : ldI sc h (fun t => t == 0) (aD (p + 1)) (nI j) = some (v j) := ldI_D g.2.1 rfl hj (by omega)
theorem MA.l2 (g : MA h p v No o m st) (hj : j < No) : ldI sc h (fun t => t == 0) (aD (p + 2)) (nI j) = some (o j) := ldI_D g.2.2.1 rfl hj (by have := g.2.2.2; omega)
theorem MA.s1 (g : MA h p v No o m st) (hj : j < 24) : stI h (fun t => t == 0) (p + 1) (nI j) x = some (mset h p (upd v j x) No o m st) := by
  rw [stI_D g.2.1 rfl hj (by omega)]
  unfold mset
  rw [hset_self g.1, hset_self (p := p + 2) (by rw [hget_ne (by omega)]; exact g.2.2.1)]
  rfl
theorem MA.s2 (g : MA h p v No o m st) (hj : j < No) : stI h (fun t => t == 0) (p + 2) (nI j) x = some (mset h p v No (upd o j x) m st) := by
  rw [stI_D g.2.2.1 rfl hj (by have := g.2.2.2; omega)]
  unfold mset
  rw [hset_self g.1, hset_self g.2.1]
  rfl
theorem MA.p2 (g : MA h p v No o m st) : putF h p 7 2 0 (aI (nI m')) = some (mset h p v No o m' st) := by
  rw [putF_D g.1 (show 2 < 4 by decide) rfl]
  unfold mset
  rw [hset_self (h := hset h p _) (p := p + 1) (by rw [hget_ne (by omega)]; exact g.2.1), hset_self (h := hset h p _) (p := p + 2) (by rw [hget_ne (by omega)]; exact g.2.2.1)]
  rfl
theorem MA.p3 (g : MA h p v No o m st) : putF h p 7 3 0 (aI (nI st')) = some (mset h p v No o m st') := by
  rw [putF_D g.1 (show 3 < 4 by decide) rfl]
  unfold mset
  rw [hset_self (h := hset h p _) (p := p + 1) (by rw [hget_ne (by omega)]; exact g.2.1), hset_self (h := hset h p _) (p := p + 2) (by rw [hget_ne (by omega)]; exact g.2.2.1)]
  rfl
theorem VG.r1 {X : Nat → Nat → Int32} (g : VG n X) (hi : i < n) : X i 1 = nI (rg X i 1) ∧ rg X i 1 < 8 := by
  obtain ⟨a, b, h1, h2, h3, h4⟩ := g.1 i hi
  unfold rg
  rw [h1, nI_clamp (by omega)]
  exact ⟨rfl, h2⟩
theorem VG.r2 {X : Nat → Nat → Int32} (g : VG n X) (hi : i < n) : X i 2 = nI (rg X i 2) ∧ rg X i 2 < 8 := by
  obtain ⟨a, b, h1, h2, h3, h4⟩ := g.1 i hi
  unfold rg
  rw [h3, nI_clamp (by omega)]
  exact ⟨rfl, h4⟩
theorem VG.r3 {X : Nat → Nat → Int32} (g : VG n X) (hi : i < n) (hk : kRC (kx X i) = true) : X i 3 = nI (rg X i 3) ∧ rg X i 3 < 8 := by
  obtain ⟨c, h1, h2⟩ := g.2 i hi hk
  unfold rg
  rw [h1, nI_clamp (by omega)]
  exact ⟨rfl, h2⟩
theorem cell_ok (X : Nat → Nat → Int32) (v : Nat → Int32) (i : Nat) : nI 8 + ((v (rg X i 2) + X i 3) &&& nI 15) = nI (cell X v i) ∧ cell X v i < 24 := by
  obtain ⟨k, h1, h2⟩ := and_nI (v (rg X i 2) + X i 3) (show 15 < 2 ^ 31 by omega)
  unfold cell
  rw [h2, nI_clamp (by omega), nI_add]
  exact ⟨rfl, by omega⟩
theorem c_X5_cellPlace (g : MA h p v No o m st) (hj : j < 24) : Call sc n_X5_cellPlace [aD p, aI (nI j), aI x] h = some (.inl (some (aI (nI 8 + ((v j + x) &&& nI 15)))), h) := by
  simp only [c0_X5_cellPlace, e_X5_cellPlace_0, e_X5_cellPlace_6, e_X5_cellPlace_8, g.f0, g.l1 hj, bO_some, bF_I, bF_D, bF_C, bC_v, pk_mul, nI_add, Option.toList, List.cons_append, List.nil_append]
theorem c_X5_conditionHolds (g : MA h p v No o m st) (gp : PG h q N n f) (hv : VK n (xC n f)) (hg : VG n (xC n f)) (hi : i < n) (hk : kBr (kx (xC n f) i) = true) : Call sc n_X5_conditionHolds [aD p, aD q, aI (nI i)] h = some (.inl (some (aI (zI (tkX (xC n f) i v)))), h) := by
  have k1 := (hv i hi).2
  have e1 := c_X6_kind (sc := sc) gp hv hi
  have e2 := c_X6_part (sc := sc) gp hi (show 1 < 5 by omega)
  have e3 := c_X6_part (sc := sc) gp hi (show 2 < 5 by omega)
  have r1 := hg.r1 hi
  have r2 := hg.r2 hi
  rw [r1.1] at e2
  rw [r2.1] at e3
  have b1 := fun r => bI_t (acOK k1 (show 1 ≤ 9 ∧ 9 < 13 by omega)) r
  simp only [c0_X5_conditionHolds, e_X5_conditionHolds_0, e_X5_conditionHolds_5, e_X5_conditionHolds_8, bI_t gp.ok, e1, kf_co k1, bO_some, bF_I, bF_D, bF_C, bC_v, pk_mul, nI_add, Option.toList, List.cons_append, List.nil_append, zI_0, if_true, if_false, eq_self, not_true_eq_false, not_false_eq_true]
  unfold tkX
  by_cases hc : kCo (kx (xC n f) i) = true
  · simp only [hc, e_X5_conditionHolds_13, e_X5_conditionHolds_17, e_X5_conditionHolds_23, e_X5_conditionHolds_24, e_X5_conditionHolds_29, e_X5_conditionHolds_35, e_X5_conditionHolds_36, e_X5_conditionHolds_43, g.f0, bI_t gp.ok, e1, e2, e3, g.l1 (show rg (xC n f) i 1 < 24 by omega), g.l1 (show rg (xC n f) i 2 < 24 by omega), b1, bO_some, bF_I, bF_D, bF_C, bC_v, pk_mul, nI_add, Option.toList, List.cons_append, List.nil_append, zI_0, if_true, if_false, eq_self, not_true_eq_false, not_false_eq_true, reduceCtorEq]
    by_cases h8 : kx (xC n f) i = 8
    · rw [if_neg (by omega), if_pos h8, e_X5_conditionHolds_49]
      by_cases h9 : v (rg (xC n f) i 1) = v (rg (xC n f) i 2)
      · rw [if_neg (fun z => z h9), e_X5_conditionHolds_55, e_X5_conditionHolds_74, decide_eq_true h9]
        exact bI_t rfl _
      · rw [if_pos h9, e_X5_conditionHolds_59, e_X5_conditionHolds_74, decide_eq_false h9]
        exact bI_t rfl _
    · rw [if_pos (by omega), if_neg h8, e_X5_conditionHolds_63]
      by_cases h9 : v (rg (xC n f) i 1) < v (rg (xC n f) i 2)
      · rw [if_neg (Int32.not_le.mpr h9), e_X5_conditionHolds_69, e_X5_conditionHolds_74, decide_eq_true h9]
        exact bI_t rfl _
      · rw [if_pos (Int32.not_lt.mp h9), e_X5_conditionHolds_73, e_X5_conditionHolds_74, decide_eq_false h9]
        exact bI_t rfl _
  · have hc' := hc
    rw [Bool.not_eq_true] at hc'
    simp only [hc', e_X5_conditionHolds_11, zI_0, if_true, if_false, eq_self, not_true_eq_false, not_false_eq_true, reduceCtorEq]
    rfl
end
