/-! PURE 7: the class's flow: liveness -/
/-- a flow's object p of the program q, with its four rows -/
def FL (h : AH) (p q : Nat) (l r w s : Nat → Int32) : Prop := hget h p = some (oO 5 [aD q, aD (p + 1), aD (p + 2), aD (p + 3), aD (p + 4)]) ∧ hget h (p + 1) = some (oI 0 61 l) ∧ hget h (p + 2) = some (oI 0 60 r) ∧ hget h (p + 3) = some (oI 0 60 w) ∧ hget h (p + 4) = some (oI 3 61 s)
def fset (h : AH) (p : Nat) (l r w : Nat → Int32) : AH := hset (hset (hset h (p + 1) (oI 0 61 l)) (p + 2) (oI 0 60 r)) (p + 3) (oI 0 60 w)
section
variable {sc : SC} {h : AH} {p q N n j k : Nat} {f l r w s l' r' w' : Nat → Int32} {x : Int32}
theorem fset_ne (h1 : ¬ j = p + 1) (h2 : ¬ j = p + 2) (h3 : ¬ j = p + 3) : hget (fset h p l r w) j = hget h j := by
  unfold fset
  rw [hget_ne h3, hget_ne h2, hget_ne h1]
theorem fset_fset : fset (fset h p l r w) p l' r' w' = fset h p l' r' w' := by
  unfold fset
  rw [hset_comm (p := p + 3) (q := p + 1) (by omega), hset_comm (p := p + 2) (q := p + 1) (by omega), hset_hset, hset_comm (p := p + 3) (q := p + 2) (by omega), hset_hset, hset_hset]
theorem FL.self (g : FL h p q l r w s) : fset h p l r w = h := by
  unfold fset
  rw [hset_self g.2.1, hset_self g.2.2.1, hset_self g.2.2.2.1]
theorem FL.to (g : FL h p q l r w s) : FL (fset h p l' r' w') p q l' r' w' s := by
  refine ⟨?_, ?_, ?_, ?_, ?_⟩
  · rw [fset_ne (by omega) (by omega) (by omega)]
    exact g.1
  · unfold fset
    rw [hget_ne (by omega), hget_ne (by omega)]
    exact hget_set g.2.1
  · unfold fset
    rw [hget_ne (by omega)]
    exact hget_set (o' := oI 0 60 r) (by rw [hget_ne (by omega)]; exact g.2.2.1)
  · unfold fset
    exact hget_set (o' := oI 0 60 w) (by rw [hget_ne (by omega), hget_ne (by omega)]; exact g.2.2.2.1)
  · rw [fset_ne (by omega) (by omega) (by omega)]
    exact g.2.2.2.2
theorem PG.fl (g : PG h q N n f) (hd : q + 1 < p) : PG (fset h p l r w) q N n f := by
  refine ⟨?_, ?_, g.2.2⟩
  · rw [fset_ne (by omega) (by omega) (by omega)]
    exact g.1
  · rw [fset_ne (by omega) (by omega) (by omega)]
    exact g.2.1
theorem FL.s1 (g : FL h p q l r w s) (hj : j < 61) : stI h (fun t => t == 0) (p + 1) (nI j) x = some (fset h p (upd l j x) r w) := by
  rw [stI_D g.2.1 rfl hj (by omega)]
  unfold fset
  rw [hset_self (p := p + 2) (by rw [hget_ne (by omega)]; exact g.2.2.1), hset_self (p := p + 3) (by rw [hget_ne (by omega)]; exact g.2.2.2.1)]
  rfl
theorem FL.s2 (g : FL h p q l r w s) (hj : j < 60) : stI h (fun t => t == 0) (p + 2) (nI j) x = some (fset h p l (upd r j x) w) := by
  rw [stI_D g.2.2.1 rfl hj (by omega)]
  unfold fset
  rw [hset_self g.2.1, hset_self (p := p + 3) (by rw [hget_ne (by omega)]; exact g.2.2.2.1)]
  rfl
theorem FL.s3 (g : FL h p q l r w s) (hj : j < 60) : stI h (fun t => t == 0) (p + 3) (nI j) x = some (fset h p l r (upd w j x)) := by
  rw [stI_D g.2.2.2.1 rfl hj (by omega)]
  unfold fset
  rw [hset_self g.2.1, hset_self g.2.2.1]
  rfl
theorem FL.t1 (g : FL h p q l r w s) (hj : j < 61) : stI (fset h p l' r' w') (fun t => t == 0) (p + 1) (nI j) x = some (fset h p (upd l' j x) r' w') := by
  rw [g.to.s1 hj, fset_fset]
theorem FL.t2 (g : FL h p q l r w s) (hj : j < 60) : stI (fset h p l' r' w') (fun t => t == 0) (p + 2) (nI j) x = some (fset h p l' (upd r' j x) w') := by
  rw [g.to.s2 hj, fset_fset]
theorem FL.t3 (g : FL h p q l r w s) (hj : j < 60) : stI (fset h p l' r' w') (fun t => t == 0) (p + 3) (nI j) x = some (fset h p l' r' (upd w' j x)) := by
  rw [g.to.s3 hj, fset_fset]
theorem FL.f0 (g : FL h p q l r w s) : getF sc h (aD p) 5 0 = some (aD q) := getF_D g.1 rfl
theorem FL.f1 (g : FL h p q l r w s) : getF sc h (aD p) 5 1 = some (aD (p + 1)) := getF_D g.1 rfl
theorem FL.f2 (g : FL h p q l r w s) : getF sc h (aD p) 5 2 = some (aD (p + 2)) := getF_D g.1 rfl
theorem FL.f3 (g : FL h p q l r w s) : getF sc h (aD p) 5 3 = some (aD (p + 3)) := getF_D g.1 rfl
theorem FL.f4 (g : FL h p q l r w s) : getF sc h (aD p) 5 4 = some (aD (p + 4)) := getF_D g.1 rfl
theorem FL.ok (g : FL h p q l r w s) : rOK sc h (aD p) 5 = true := rOK_D g.1
theorem FL.l1 (g : FL h p q l r w s) (hj : j < 61) : ldI sc h (fun t => t == 0) (aD (p + 1)) (nI j) = some (l j) := ldI_D g.2.1 rfl hj (by omega)
theorem FL.l2 (g : FL h p q l r w s) (hj : j < 60) : ldI sc h (fun t => t == 0) (aD (p + 2)) (nI j) = some (r j) := ldI_D g.2.2.1 rfl hj (by omega)
theorem FL.l3 (g : FL h p q l r w s) (hj : j < 60) : ldI sc h (fun t => t == 0) (aD (p + 3)) (nI j) = some (w j) := ldI_D g.2.2.2.1 rfl hj (by omega)
theorem c_X2_liveThrough (g : FL h p q l r w s) (hj : j < 60) : Call sc n_X2_liveThrough [aD p, aI (nI j), aI x] h = some (.inl (some (aI (r j ||| (x &&& (w j ^^^ (-1)))))), h) := by
  simp only [c0_X2_liveThrough, e_X2_liveThrough_0, e_X2_liveThrough_4, e_X2_liveThrough_6, e_X2_liveThrough_11, e_X2_liveThrough_13, g.f2, g.f3, bO_some, bF_I, bF_D, bF_C, bC_v, pk_mul, nI_add, Option.toList, List.cons_append, List.nil_append, g.l2 hj, g.l3 hj]
theorem lt_at {n : Nat} {X : Nat → Nat → Int32} (ht : VT n X) {k : Nat} (hk : k < n) (hb : kBr (kx X k) = true) (hn : n < 2 ^ 31) : X k 3 = nI (ltX X k) ∧ ltX X k ≤ n := by
  obtain ⟨t, h1, h2⟩ := ht k hk hb
  unfold ltX
  rw [h1, nI_clamp (by omega)]
  exact ⟨rfl, h2⟩
theorem VF_of {n : Nat} {X : Nat → Nat → Int32} (ht : VT n X) (hb : VB n X) (hn : n < 2 ^ 31) : VF n X := by
  intro k hk h1
  exact ⟨(lt_at ht hk h1 hn).2, by have := hb k hk h1; omega⟩
theorem c_X2_liveFromFollowing (g : FL h p q l r w s) (gp : PG h q N n f) (hv : VK n (xC n f)) (ht : VT n (xC n f)) (hb9 : VB n (xC n f)) (hr : ∀ i, i < n → r i = rdX (xC n f) i) (hw : ∀ i, i < n → w i = wrX (xC n f) i) (hk : k < n) (hs : slX (xC n f) k = false) : Call sc n_X2_liveFromFollowing [aD p, aI (nI k)] h = some (.inl (some (aI (lvX (xC n f) l k))), h) := by
  have hn := gp.n60
  have k1 := (hv k hk).2
  have b1 := fun r => bI_t (acOK k1 (show 1 ≤ 12 ∧ 12 < 13 by omega)) r
  have e1 := c_X6_kind (sc := sc) gp hv hk
  have e2 := c_X6_target (sc := sc) gp hk
  have e3 := c_X6_isAnnulling (sc := sc) gp hk
  unfold lvX
  rw [hs, if_neg (by decide)]
  by_cases hb : kBr (kx (xC n f) k) = true
  · obtain ⟨t1, t2⟩ := lt_at ht hk hb (by omega)
    have hk2 := hb9 k hk hb
    have n11 : ¬ kx (xC n f) k + 1 = 12 := by
      intro h9
      have h8 : kx (xC n f) k = 11 := by omega
      rw [h8] at hb
      exact absurd hb (by decide)
    rw [if_pos hb]
    rw [t1] at e2
    have L := fun x => c_X2_liveThrough (sc := sc) (x := x) g (show k + 1 < 60 by omega)
    rw [hr _ hk2, hw _ hk2] at L
    have e4 := g.l1 (sc := sc) (show ltX (xC n f) k < 61 by omega)
    have e5 := g.l1 (sc := sc) (show k + 2 < 61 by omega)
    have e6 := g.l2 (sc := sc) (show k < 60 by omega)
    rw [hr k hk] at e6
    have e7 := kf_br (sc := sc) (h := h) k1
    rw [hb] at e7
    by_cases hc : kCo (kx (xC n f) k) = true
    · have e8 := kf_co (sc := sc) (h := h) k1
      rw [hc] at e8
      rw [if_pos hc]
      by_cases ha : xC n f k 4 = nI 1
      · rw [if_pos ha]
        simp only [ha, decide_true] at e3
        simp only [c0_X2_liveFromFollowing, e_X2_liveFromFollowing_0, e_X2_liveFromFollowing_4, e_X2_liveFromFollowing_8, e_X2_liveFromFollowing_16, e_X2_liveFromFollowing_18, e_X2_liveFromFollowing_22, e_X2_liveFromFollowing_25, e_X2_liveFromFollowing_31, e_X2_liveFromFollowing_35, e_X2_liveFromFollowing_38, e_X2_liveFromFollowing_39, e_X2_liveFromFollowing_43, e_X2_liveFromFollowing_45, e_X2_liveFromFollowing_53, e_X2_liveFromFollowing_57, e_X2_liveFromFollowing_61, e_X2_liveFromFollowing_62, e_X2_liveFromFollowing_65, e_X2_liveFromFollowing_71, e_X2_liveFromFollowing_74, e_X2_liveFromFollowing_79, e_X2_liveFromFollowing_83, e_X2_liveFromFollowing_86, e_X2_liveFromFollowing_90, e_X2_liveFromFollowing_94, e_X2_liveFromFollowing_97, e_X2_liveFromFollowing_105, e_X2_liveFromFollowing_109, e_X2_liveFromFollowing_112, e_X2_liveFromFollowing_114, g.f0, g.f1, g.f2, bO_some, bF_I, bF_D, bF_C, bC_v, pk_mul, nI_add, Option.toList, List.cons_append, List.nil_append, bI_t gp.ok, bI_t g.ok, e1, b1, n11, e2, e3, e4, e5, e6, e7, e8, L, reduceCtorEq, zI_0, if_true, if_false, eq_self, not_true_eq_false, not_false_eq_true]
        rfl
      · rw [if_neg ha]
        simp only [ha, decide_false] at e3
        simp only [c0_X2_liveFromFollowing, e_X2_liveFromFollowing_0, e_X2_liveFromFollowing_4, e_X2_liveFromFollowing_8, e_X2_liveFromFollowing_16, e_X2_liveFromFollowing_18, e_X2_liveFromFollowing_22, e_X2_liveFromFollowing_25, e_X2_liveFromFollowing_31, e_X2_liveFromFollowing_35, e_X2_liveFromFollowing_38, e_X2_liveFromFollowing_39, e_X2_liveFromFollowing_43, e_X2_liveFromFollowing_45, e_X2_liveFromFollowing_53, e_X2_liveFromFollowing_57, e_X2_liveFromFollowing_61, e_X2_liveFromFollowing_62, e_X2_liveFromFollowing_65, e_X2_liveFromFollowing_71, e_X2_liveFromFollowing_74, e_X2_liveFromFollowing_79, e_X2_liveFromFollowing_83, e_X2_liveFromFollowing_86, e_X2_liveFromFollowing_90, e_X2_liveFromFollowing_94, e_X2_liveFromFollowing_97, e_X2_liveFromFollowing_105, e_X2_liveFromFollowing_109, e_X2_liveFromFollowing_112, e_X2_liveFromFollowing_114, g.f0, g.f1, g.f2, bO_some, bF_I, bF_D, bF_C, bC_v, pk_mul, nI_add, Option.toList, List.cons_append, List.nil_append, bI_t gp.ok, bI_t g.ok, e1, b1, n11, e2, e3, e4, e5, e6, e7, e8, L, reduceCtorEq, zI_0, if_true, if_false, eq_self, not_true_eq_false, not_false_eq_true]
        rfl
    · rw [if_neg hc]
      rw [Bool.not_eq_true] at hc
      have e8 := kf_co (sc := sc) (h := h) k1
      rw [hc] at e8
      simp only [c0_X2_liveFromFollowing, e_X2_liveFromFollowing_0, e_X2_liveFromFollowing_4, e_X2_liveFromFollowing_8, e_X2_liveFromFollowing_16, e_X2_liveFromFollowing_18, e_X2_liveFromFollowing_22, e_X2_liveFromFollowing_25, e_X2_liveFromFollowing_31, e_X2_liveFromFollowing_35, e_X2_liveFromFollowing_38, e_X2_liveFromFollowing_39, e_X2_liveFromFollowing_43, e_X2_liveFromFollowing_45, e_X2_liveFromFollowing_53, e_X2_liveFromFollowing_57, e_X2_liveFromFollowing_61, e_X2_liveFromFollowing_62, e_X2_liveFromFollowing_65, e_X2_liveFromFollowing_71, e_X2_liveFromFollowing_74, e_X2_liveFromFollowing_79, e_X2_liveFromFollowing_83, e_X2_liveFromFollowing_86, e_X2_liveFromFollowing_90, e_X2_liveFromFollowing_94, e_X2_liveFromFollowing_97, e_X2_liveFromFollowing_105, e_X2_liveFromFollowing_109, e_X2_liveFromFollowing_112, e_X2_liveFromFollowing_114, g.f0, g.f1, g.f2, bO_some, bF_I, bF_D, bF_C, bC_v, pk_mul, nI_add, Option.toList, List.cons_append, List.nil_append, bI_t gp.ok, bI_t g.ok, e1, b1, n11, e2, e3, e4, e5, e6, e7, e8, L, reduceCtorEq, zI_0, if_true, if_false, eq_self, not_true_eq_false, not_false_eq_true]
      rfl
  · rw [if_neg hb]
    rw [Bool.not_eq_true] at hb
    by_cases h11 : kx (xC n f) k = 11
    · rw [if_pos h11]
      simp only [c0_X2_liveFromFollowing, e_X2_liveFromFollowing_0, e_X2_liveFromFollowing_4, e_X2_liveFromFollowing_8, e_X2_liveFromFollowing_16, e_X2_liveFromFollowing_18, e_X2_liveFromFollowing_22, e_X2_liveFromFollowing_25, e_X2_liveFromFollowing_31, e_X2_liveFromFollowing_35, e_X2_liveFromFollowing_38, e_X2_liveFromFollowing_39, e_X2_liveFromFollowing_43, e_X2_liveFromFollowing_45, e_X2_liveFromFollowing_53, e_X2_liveFromFollowing_57, e_X2_liveFromFollowing_61, e_X2_liveFromFollowing_62, e_X2_liveFromFollowing_65, e_X2_liveFromFollowing_71, e_X2_liveFromFollowing_74, e_X2_liveFromFollowing_79, e_X2_liveFromFollowing_83, e_X2_liveFromFollowing_86, e_X2_liveFromFollowing_90, e_X2_liveFromFollowing_94, e_X2_liveFromFollowing_97, e_X2_liveFromFollowing_105, e_X2_liveFromFollowing_109, e_X2_liveFromFollowing_112, e_X2_liveFromFollowing_114, g.f0, bO_some, bF_I, bF_D, bF_C, bC_v, pk_mul, nI_add, Option.toList, List.cons_append, List.nil_append, bI_t gp.ok, e1, b1, h11, zI_0, if_true, if_false, eq_self, not_true_eq_false, not_false_eq_true]
      rfl
    · rw [if_neg h11]
      have n11 : ¬ kx (xC n f) k + 1 = 12 := by omega
      have e7 := kf_br (sc := sc) (h := h) k1
      rw [hb] at e7
      have L := fun x => c_X2_liveThrough (sc := sc) (x := x) g (show k < 60 by omega)
      rw [hr _ hk, hw _ hk] at L
      have e5 := g.l1 (sc := sc) (show k + 1 < 61 by omega)
      simp only [c0_X2_liveFromFollowing, e_X2_liveFromFollowing_0, e_X2_liveFromFollowing_4, e_X2_liveFromFollowing_8, e_X2_liveFromFollowing_16, e_X2_liveFromFollowing_18, e_X2_liveFromFollowing_22, e_X2_liveFromFollowing_25, e_X2_liveFromFollowing_31, e_X2_liveFromFollowing_35, e_X2_liveFromFollowing_38, e_X2_liveFromFollowing_39, e_X2_liveFromFollowing_43, e_X2_liveFromFollowing_45, e_X2_liveFromFollowing_53, e_X2_liveFromFollowing_57, e_X2_liveFromFollowing_61, e_X2_liveFromFollowing_62, e_X2_liveFromFollowing_65, e_X2_liveFromFollowing_71, e_X2_liveFromFollowing_74, e_X2_liveFromFollowing_79, e_X2_liveFromFollowing_83, e_X2_liveFromFollowing_86, e_X2_liveFromFollowing_90, e_X2_liveFromFollowing_94, e_X2_liveFromFollowing_97, e_X2_liveFromFollowing_105, e_X2_liveFromFollowing_109, e_X2_liveFromFollowing_112, e_X2_liveFromFollowing_114, g.f0, g.f1, bO_some, bF_I, bF_D, bF_C, bC_v, pk_mul, nI_add, Option.toList, List.cons_append, List.nil_append, bI_t gp.ok, bI_t g.ok, e1, b1, n11, e5, e7, L, reduceCtorEq, zI_0, if_true, if_false, eq_self, not_true_eq_false, not_false_eq_true]
      rfl
end
