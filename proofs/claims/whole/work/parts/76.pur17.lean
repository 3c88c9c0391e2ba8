/-! PURE 17: a machine executes -/
/-- where it is, where it goes on after a slot, registers and cells, output, its length, steps -/
abbrev XS : Type := Nat × Option Nat × (Nat → Int32) × (Nat → Int32) × Nat × Nat
def nxX (X : Nat → Nat → Int32) (hs : Bool) (a : Nat) (v : Nat → Int32) : Nat := if tkX X a v = true then ltX X a else a + (if hs = true then 2 else 1)
def dueX (X : Nat → Nat → Int32) (hs : Bool) (a : Nat) (v : Nat → Int32) : Bool := hs && (tkX X a v || !decide (X a 4 = nI 1))
def cs1 (X : Nat → Nat → Int32) (n : Nat) (hs : Bool) (s : XS) : XS :=
  if kBr (kx X s.1) = true then
    (if dueX X hs s.1 s.2.2.1 = true then (s.1 + 1, some (nxX X hs s.1 s.2.2.1), s.2.2.1, s.2.2.2.1, s.2.2.2.2.1, s.2.2.2.2.2 + 1) else (nxX X hs s.1 s.2.2.1, none, s.2.2.1, s.2.2.2.1, s.2.2.2.2.1, s.2.2.2.2.2 + 1))
  else if kx X s.1 = 11 then (n, s.2.1, s.2.2.1, s.2.2.2.1, s.2.2.2.2.1, s.2.2.2.2.2 + 1)
  else (s.2.1.getD (s.1 + 1), none, pfV X s.1 s.2.2.1, pfO X s.1 s.2.2.1 s.2.2.2.1 s.2.2.2.2.1, pfN X s.1 s.2.2.2.2.1, s.2.2.2.2.2 + 1)
def csX (X : Nat → Nat → Int32) (n : Nat) (hs : Bool) : Nat → XS → XS
  | 0, s => s
  | d + 1, s => if s.1 < n then csX X n hs d (cs1 X n hs s) else s
section
variable {sc : SC} {h h' : AH} {p q p3 N n a i j k No m st m' st' L nx : Nat} {f v o v' o' : Nat → Int32} {x x6 : Int32} {S : Nat → Prop} {v7 v8 v9 v10 : AV} {hs : Bool}
theorem t100 (gp : PG h q N n f) (ha : a < n) (tk : Bool) : ∃ v9' v10', Run sc n_X5_executes 100 [aD p, aD q, aI (zI hs), aD p3, aI x, aI (nI a), aI x6, aC k, aI (zI tk), v9, v10] none [aI (nI nx)] h = Run sc n_X5_executes 203 [aD p, aD q, aI (zI hs), aD p3, aI x, aI (nI (if (hs && (tk || !decide (xC n f a 4 = nI 1))) = true then a + 1 else nx)), aI (enc (if (hs && (tk || !decide (xC n f a 4 = nI 1))) = true then some nx else none)), aC k, aI (zI tk), v9', v10'] none [] h := by
  have e1 := c_X6_isAnnulling (sc := sc) gp ha
  have T0 : Run sc n_X5_executes 124 [aD p, aD q, aI (zI hs), aD p3, aI x, aI (nI a), aI x6, aC k, aI (zI tk), aI (nI nx), v10] none [] h = Run sc n_X5_executes 203 [aD p, aD q, aI (zI hs), aD p3, aI x, aI (nI nx), aI (-1), aC k, aI (zI tk), aI (nI nx), aI (nI 0)] none [] h := by
    simp only [e_X5_executes_124, e_X5_executes_125, e_X5_executes_137, e_X5_executes_138, e_X5_executes_152, e_X5_executes_154, show (nI 0 = 0) = True from eq_true (by decide), zI_0, if_true, if_false, eq_self, not_true_eq_false, not_false_eq_true]
  have T1 : Run sc n_X5_executes 120 [aD p, aD q, aI (zI hs), aD p3, aI x, aI (nI a), aI x6, aC k, aI (zI tk), aI (nI nx), v10] none [] h = Run sc n_X5_executes 203 [aD p, aD q, aI (zI hs), aD p3, aI x, aI (nI (a + 1)), aI (nI nx), aC k, aI (zI tk), aI (nI nx), aI (nI 1)] none [] h := by
    simp only [e_X5_executes_120, e_X5_executes_125, e_X5_executes_132, e_X5_executes_138, e_X5_executes_145, e_X5_executes_154, show ¬ nI 1 = 0 from by decide, bO_some, bF_I, bF_D, bF_C, bC_v, pk_mul, nI_add, Option.toList, List.cons_append, List.nil_append, zI_0, if_true, if_false, eq_self, not_true_eq_false, not_false_eq_true]
  cases hs
  · refine ⟨aI (nI nx), aI (nI 0), ?_⟩
    simp only [e_X5_executes_100, zI_0, if_true, if_false, eq_self, not_true_eq_false, not_false_eq_true]
    exact T0
  · cases tk
    · by_cases hh : xC n f a 4 = nI 1
      · refine ⟨aI (nI nx), aI (nI 0), ?_⟩
        rw [decide_eq_true hh] at e1 ⊢
        simp only [e_X5_executes_100, e_X5_executes_106, e_X5_executes_111, e_X5_executes_117, bI_t gp.ok, e1, bO_some, bF_I, bF_D, bF_C, bC_v, pk_mul, nI_add, Option.toList, List.cons_append, List.nil_append, zI_0, if_true, if_false, eq_self, not_true_eq_false, not_false_eq_true, reduceCtorEq]
        exact T0
      · refine ⟨aI (nI nx), aI (nI 1), ?_⟩
        rw [decide_eq_false hh] at e1 ⊢
        simp only [e_X5_executes_100, e_X5_executes_106, e_X5_executes_111, e_X5_executes_117, bI_t gp.ok, e1, bO_some, bF_I, bF_D, bF_C, bC_v, pk_mul, nI_add, Option.toList, List.cons_append, List.nil_append, zI_0, if_true, if_false, eq_self, not_true_eq_false, not_false_eq_true, reduceCtorEq]
        exact T1
    · refine ⟨aI (nI nx), aI (nI 1), ?_⟩
      simp only [e_X5_executes_100, e_X5_executes_106, zI_0, if_true, if_false, eq_self, not_true_eq_false, not_false_eq_true, reduceCtorEq]
      exact T1
/-- what holds of a place and what comes after it -/
def AO1 (n : Nat) (s : XS) : Prop := s.1 ≤ n ∧ (∀ b, s.2.1 = some b → b ≤ n) ∧ s.2.2.2.2.1 ≤ s.2.2.2.2.2
theorem cs1_ok {X : Nat → Nat → Int32} {s : XS} (ht : VF n X ∨ (hs = false ∧ ∀ k, k < n → kBr (kx X k) = true → ltX X k ≤ n)) (hh : AO1 n s) (ha : s.1 < n) : AO1 n (cs1 X n hs s) ∧ (cs1 X n hs s).2.2.2.2.2 = s.2.2.2.2.2 + 1 := by
  obtain ⟨a, af, v, o, m, st⟩ := s
  obtain ⟨h1, h2, h3⟩ := hh
  simp only at h1 h2 h3 ha
  have hnx : kBr (kx X a) = true → nxX X hs a v ≤ n := by
    intro hk
    unfold nxX
    rcases ht with ht | ⟨rfl, ht⟩
    · have h4 := ht a ha hk
      split
      · exact h4.1
      · split <;> omega
    · split
      · exact ht a ha hk
      · rw [if_neg (by decide)]
        omega
  unfold cs1
  simp only
  by_cases hk : kBr (kx X a) = true
  · rw [if_pos hk]
    split
    · exact ⟨⟨by show a + 1 ≤ n; omega, fun b hb => by
        have h5 : nxX X hs a v = b := Option.some.inj hb
        rw [← h5]
        exact hnx hk, by show m ≤ st + 1; omega⟩, rfl⟩
    · exact ⟨⟨hnx hk, (fun b hb => by cases hb), by show m ≤ st + 1; omega⟩, rfl⟩
  · rw [if_neg hk]
    split
    · exact ⟨⟨Nat.le_refl n, h2, by show m ≤ st + 1; omega⟩, rfl⟩
    · refine ⟨⟨?_, (fun b hb => by cases hb), ?_⟩, rfl⟩
      · show af.getD (a + 1) ≤ n
        cases af with
        | none => exact ha
        | some b => exact h2 b rfl
      · show pfN X a m ≤ st + 1
        unfold pfN
        split <;> omega
theorem l_step (g : MA h p v No o m st) (gp : PG h q N n f) (hpq : p + 2 < q ∨ q + 1 < p) (hv : VK n (xC n f)) (hg : VG n (xC n f)) (ht : VT n (xC n f)) (ha : a < n) (hm : m < No) {af : Option Nat} (haf : ∀ b, af = some b → b ≤ n) (hst : st < L) (hL : L ≤ 2000) (v7 v8 v9 v10 : AV) : ∃ h' v7' v8' v9' v10', Run sc n_X5_executes 31 [aD p, aD q, aI (zI hs), aD p3, aI (nI L), aI (nI a), aI (enc af), v7, v8, v9, v10] none [] h = Run sc n_X5_executes 31 [aD p, aD q, aI (zI hs), aD p3, aI (nI L), aI (nI (cs1 (xC n f) n hs (a, af, v, o, m, st)).1), aI (enc (cs1 (xC n f) n hs (a, af, v, o, m, st)).2.1), v7', v8', v9', v10'] none [] h' ∧ MA h' p (cs1 (xC n f) n hs (a, af, v, o, m, st)).2.2.1 No (cs1 (xC n f) n hs (a, af, v, o, m, st)).2.2.2.1 (cs1 (xC n f) n hs (a, af, v, o, m, st)).2.2.2.2.1 (cs1 (xC n f) n hs (a, af, v, o, m, st)).2.2.2.2.2 ∧ Fr (fun x => x = p ∨ x = p + 1 ∨ x = p + 2) h h' := by
  have hn := gp.n60
  have h1 : ¬ nI L ≤ nI st := nI_ge hst (by omega)
  have h2 : ¬ nI n ≤ nI a := nI_ge ha (by omega)
  have k1 := (hv a ha).2
  have e1 := c_X6_kind (sc := sc) gp hv ha
  have b1 := fun r => bI_t (acOK k1 (show 1 ≤ 12 ∧ 12 < 13 by omega)) r
  have T203 : ∀ {h v o m} (g : MA h p v No o m st) (y : Int32) (o6 : Int32) (w8 w9 w10 : AV), Run sc n_X5_executes 203 [aD p, aD q, aI (zI hs), aD p3, aI (nI L), aI y, aI o6, aC (kx (xC n f) a + 1), w8, w9, w10] none [] h = Run sc n_X5_executes 31 [aD p, aD q, aI (zI hs), aD p3, aI (nI L), aI y, aI o6, aC (kx (xC n f) a + 1), w8, w9, w10] none [] (mset h p v No o m (st + 1)) := by
    intro h v o m g y o6 w8 w9 w10
    simp only [e_X5_executes_203, e_X5_executes_208, e_X5_executes_213, g.f3, g.p3, bO_some, bF_I, bF_D, bF_C, bC_v, pk_mul, nI_add, Option.toList, List.cons_append, List.nil_append]
  by_cases hk : kBr (kx (xC n f) a) = true
  · obtain ⟨t1, t2⟩ := lt_at ht ha hk (by omega)
    have e2 := c_X5_conditionHolds (sc := sc) g gp hv hg ha hk
    have e3 := c_X6_target (sc := sc) gp ha
    rw [t1] at e3
    obtain ⟨w9, w10, q1⟩ := t100 (sc := sc) (p := p) (hs := hs) (p3 := p3) (x := nI L) (x6 := enc af) (k := kx (xC n f) a + 1) (nx := nxX (xC n f) hs a v) (v9 := v9) (v10 := v10) gp ha (tkX (xC n f) a v)
    have hcs : cs1 (xC n f) n hs (a, af, v, o, m, st) = ((if (hs && (tkX (xC n f) a v || !decide (xC n f a 4 = nI 1))) = true then a + 1 else nxX (xC n f) hs a v), (if (hs && (tkX (xC n f) a v || !decide (xC n f a 4 = nI 1))) = true then some (nxX (xC n f) hs a v) else none), v, o, m, st + 1) := by
      unfold cs1 dueX
      simp only [hk, if_true]
      split <;> rfl
    refine ⟨mset h p v No o m (st + 1), aC (kx (xC n f) a + 1), aI (zI (tkX (xC n f) a v)), w9, w10, ?_, ?_, g.fr⟩
    · rw [hcs]
      simp only
      rw [← T203 g, ← q1]
      rw [e_X5_executes_31]
      simp only [e_X5_executes_35, e_X5_executes_40, e_X5_executes_46, e_X5_executes_49, e_X5_executes_55, e_X5_executes_62, e_X5_executes_65, e_X5_executes_72, g.f3, gp.f1, bI_t gp.ok, bI_t g.ok, e1, e2, kf_br k1, hk, h1, h2, bO_some, bF_I, bF_D, bF_C, bC_v, pk_mul, nI_add, Option.toList, List.cons_append, List.nil_append, zI_0, if_true, if_false, eq_self, not_true_eq_false, not_false_eq_true, reduceCtorEq]
      unfold nxX
      by_cases htk : tkX (xC n f) a v = true
      · simp only [htk, e_X5_executes_79, e_X5_executes_85, bI_t gp.ok, e3, bO_some, bF_I, bF_D, bF_C, bC_v, pk_mul, nI_add, Option.toList, List.cons_append, List.nil_append, zI_0, if_true, if_false, eq_self, not_true_eq_false, not_false_eq_true, reduceCtorEq]
      · have htk' := htk
        rw [Bool.not_eq_true] at htk'
        simp only [htk', zI_0, if_true, if_false, eq_self, not_true_eq_false, not_false_eq_true, reduceCtorEq]
        cases hs
        · simp only [e_X5_executes_88, e_X5_executes_98, e_X5_executes_99, bO_some, bF_I, bF_D, bF_C, bC_v, pk_mul, nI_add, Option.toList, List.cons_append, List.nil_append, zI_0, if_true, if_false, eq_self, not_true_eq_false, not_false_eq_true, reduceCtorEq]
        · simp only [e_X5_executes_88, e_X5_executes_94, e_X5_executes_99, bO_some, bF_I, bF_D, bF_C, bC_v, pk_mul, nI_add, Option.toList, List.cons_append, List.nil_append, zI_0, if_true, if_false, eq_self, not_true_eq_false, not_false_eq_true, reduceCtorEq]
    · rw [hcs]
      exact g.to
  · have hk' := hk
    rw [Bool.not_eq_true] at hk'
    by_cases h11 : kx (xC n f) a = 11
    · have hcs : cs1 (xC n f) n hs (a, af, v, o, m, st) = (n, af, v, o, m, st + 1) := by
        show (if kBr (kx (xC n f) a) = true then _ else if kx (xC n f) a = 11 then _ else _) = _
        rw [if_neg hk, if_pos h11]
      refine ⟨mset h p v No o m (st + 1), aC (kx (xC n f) a + 1), v8, v9, v10, ?_, ?_, g.fr⟩
      · rw [hcs]
        simp only
        rw [← T203 g, e_X5_executes_31]
        simp only [e_X5_executes_35, e_X5_executes_40, e_X5_executes_46, e_X5_executes_49, e_X5_executes_55, e_X5_executes_62, e_X5_executes_159, e_X5_executes_167, e_X5_executes_171, g.f3, gp.f1, bI_t gp.ok, bI_t g.ok, b1, e1, kf_br k1, hk', h1, h2, eq_true (show kx (xC n f) a + 1 = 12 by omega), bO_some, bF_I, bF_D, bF_C, bC_v, pk_mul, nI_add, Option.toList, List.cons_append, List.nil_append, zI_0, if_true, if_false, eq_self, not_true_eq_false, not_false_eq_true, reduceCtorEq]
      · rw [hcs]
        exact g.to
    · have hcs : cs1 (xC n f) n hs (a, af, v, o, m, st) = (af.getD (a + 1), none, pfV (xC n f) a v, pfO (xC n f) a v o m, pfN (xC n f) a m, st + 1) := by
        unfold cs1
        simp only [hk', h11, reduceCtorEq, if_false]
      have e2 := c_X5_perform (sc := sc) g gp hv hg ha hm
      have g2 := g.to (v' := pfV (xC n f) a v) (o' := pfO (xC n f) a v o m) (m' := pfN (xC n f) a m) (st' := st)
      refine ⟨mset (mset h p (pfV (xC n f) a v) No (pfO (xC n f) a v o m) (pfN (xC n f) a m) st) p (pfV (xC n f) a v) No (pfO (xC n f) a v o m) (pfN (xC n f) a m) (st + 1), aC (kx (xC n f) a + 1), v8, v9, v10, ?_, ?_, g.fr.trans g2.fr⟩
      · rw [hcs]
        simp only
        rw [← T203 g2, e_X5_executes_31]
        simp only [e_X5_executes_35, e_X5_executes_40, e_X5_executes_46, e_X5_executes_49, e_X5_executes_55, e_X5_executes_62, e_X5_executes_159, e_X5_executes_176, g.f3, gp.f1, bI_t gp.ok, bI_t g.ok, b1, e1, e2, kf_br k1, hk', h1, h2, show ¬ kx (xC n f) a + 1 = 12 by omega, bO_some, bF_I, bF_D, bF_C, bC_v, pk_mul, nI_add, Option.toList, List.cons_append, List.nil_append, zI_0, if_true, if_false, eq_self, not_true_eq_false, not_false_eq_true, reduceCtorEq]
        cases af with
        | none =>
          simp only [e_X5_executes_183, e_X5_executes_189, e_X5_executes_198, enc, bO_some, bF_I, bF_D, bF_C, bC_v, pk_mul, nI_add, Option.toList, List.cons_append, List.nil_append, zI_0, if_true, if_false, eq_self, not_true_eq_false, not_false_eq_true]
          rfl
        | some b =>
          have hb := haf b rfl
          simp only [e_X5_executes_183, e_X5_executes_196, e_X5_executes_198, enc, enc_ne (show b < 2 ^ 31 by omega), bO_some, bF_I, bF_D, bF_C, bC_v, pk_mul, nI_add, Option.toList, List.cons_append, List.nil_append, zI_0, if_true, if_false, eq_self, not_true_eq_false, not_false_eq_true]
          rfl
      · rw [hcs]
        exact g2.to
end
