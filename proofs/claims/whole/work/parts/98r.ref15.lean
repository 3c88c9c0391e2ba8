/-! PURE 65: the reference executes -/
theorem cs_end {X : Nat → Nat → Int32} {n : Nat} {hs : Bool} {s : XS} (h1 : ¬ s.1 < n) : ∀ d, csX X n hs d s = s := by
  intro d
  cases d with
  | zero => rfl
  | succ d => exact if_neg h1
theorem cs_step {X : Nat → Nat → Int32} {n : Nat} {hs : Bool} {s : XS} (h1 : s.1 < n) (d : Nat) : csX X n hs (d + 1) s = csX X n hs d (cs1 X n hs s) := if_pos h1
section
variable {sc : SC} {h : AH} {φ : Nat → Int32} {ρ : Nat → Nat → Int32} {v o : Nat → Int32} {m st j n i a L : Nat} {x : Int32} {X : Nat → Nat → Int32} {hs : Bool} {v5 v6 : AV}
theorem l_runs (hp : PP sc h φ ρ hs n X) (hL : L ≤ 2000) : ∀ D d, d ≤ D → ∀ a v o m st v5 v6, st + d = L → a ≤ n → m ≤ st → ∃ v' o' m' st', Run sc n_X10_runs 29 [aD 51, aI (zI hs), aI (nI L), aI (nI n), aI (nI a), v5, v6] none [] (rS h φ ρ v o m st) = some (.inl (some (aI (zI (decide (n ≤ (csX X n hs d (a, none, v, o, m, st)).1))))), rS h φ ρ v' o' m' st') ∧ (n ≤ (csX X n hs d (a, none, v, o, m, st)).1 → (csX X n hs d (a, none, v, o, m, st)).2.2 = (v', o', m', st')) := by
  have hn := hp.1
  have hv := hp.2.1.1
  have hg := hp.2.1.2.1
  have ht := hp.2.1.2.2
  intro D
  induction D with
  | zero =>
    intro d hd a v o m st v5 v6 hst ha hm
    have hd0 : d = 0 := by omega
    subst hd0
    rw [show csX X n hs 0 (a, none, v, o, m, st) = (a, none, v, o, m, st) from rfl]
    simp only
    by_cases han : n ≤ a
    · refine ⟨v, o, m, st, ?_, fun _ => rfl⟩
      rw [decide_eq_true han, e_X10_runs_29, if_pos (nI_le han (by omega)), e_X10_runs_185]
      rfl
    · refine ⟨v, o, m, st, ?_, fun z => absurd z han⟩
      rw [decide_eq_false han, e_X10_runs_29, if_neg (nI_ge (by omega) (by omega))]
      simp only [e_X10_runs_35, e_X10_runs_39, e_X10_runs_43, rS_ok, rS_18, rS_19, rS_20, rS_21, rS_p21, rS_p20, bO_some, bF_I, bF_D, bF_C, bC_v, pk_mul, nI_add, Option.toList, List.cons_append, List.nil_append, show st = L by omega, not_true_eq_false, if_false]
      rfl
  | succ D ih =>
    intro d hd a v o m st v5 v6 hst ha hm
    by_cases hd0 : d = 0
    · exact ih d (by omega) a v o m st v5 v6 hst ha hm
    · obtain ⟨d, rfl⟩ : ∃ e, d = e + 1 := ⟨d - 1, by omega⟩
      by_cases han : a < n
      · rw [cs_step (s := (a, none, v, o, m, st)) han]
        have h1 : ¬ nI n ≤ nI a := nI_ge han (by omega)
        have h2 : ¬ nI st = nI L := fun z => by
          have := nI_inj (by omega) (by omega) z
          omega
        have k0 := hv a han
        have e0 := fun v o m st => hp.2.2.2.1 v o m st a 0 han (by omega)
        have e3 := fun v o m st => hp.2.2.2.1 v o m st a 3 han (by omega)
        rw [k0.1] at e0
        have br := fun H => c_isBranch (sc := sc) (h := H) k0.2
        rw [e_X10_runs_29, if_neg h1]
        simp only [e_X10_runs_35, e_X10_runs_39, e_X10_runs_45, e_X10_runs_53, rS_ok, rS_18, rS_19, rS_20, rS_21, rS_p21, rS_p20, bO_some, bF_I, bF_D, bF_C, bC_v, pk_mul, nI_add, Option.toList, List.cons_append, List.nil_append, h2, not_false_eq_true, if_true, e0, eqI (show kx X a < 2 ^ 31 by have := k0.2; omega) (show 11 < 2 ^ 31 by omega)]
        cases hb : kBr (kx X a)
        · by_cases h11 : kx X a = 11
          · have hc1 : cs1 X n hs (a, none, v, o, m, st) = (n, none, v, o, m, st + 1) := by
              unfold cs1
              simp only [hb, reduceCtorEq, if_false]
              rw [if_pos h11]
            rw [hc1, cs_end (s := (n, none, v, o, m, st + 1)) (Nat.lt_irrefl n)]
            refine ⟨v, o, m, st + 1, ?_, fun _ => rfl⟩
            rw [decide_eq_true (Nat.le_refl n)]
            simp only [h11, not_true_eq_false, if_false, e_X10_runs_62, e_X10_runs_67, e_X10_runs_72, rS_ok, rS_18, rS_19, rS_20, rS_21, rS_p21, rS_p20, bO_some, bF_I, bF_D, bF_C, bC_v, pk_mul, nI_add, Option.toList, List.cons_append, List.nil_append]
            rfl
          · have hc1 : cs1 X n hs (a, none, v, o, m, st) = (a + 1, none, pfV X a v, pfO X a v o m, pfN X a m, st + 1) := by
              unfold cs1
              simp only [hb, reduceCtorEq, if_false, h11]
              rfl
            rw [hc1]
            have hpn : pfN X a m ≤ m + 1 := by
              unfold pfN
              split <;> omega
            obtain ⟨v', o', m', st', q1, q2⟩ := ih d (by omega) (a + 1) (pfV X a v) (pfO X a v o m) (pfN X a m) (st + 1) (aI (nI (kx X a))) v6 (by omega) (by omega) (by omega)
            refine ⟨v', o', m', st', ?_, q2⟩
            rw [← q1]
            simp only [h11, not_false_eq_true, if_true, e_X10_runs_74, e_X10_runs_79, e_X10_runs_82, e_X10_runs_89, e_X10_runs_182, rS_ok, rS_18, rS_19, rS_20, rS_21, rS_p21, rS_p20, bO_some, bF_I, bF_D, bF_C, bC_v, pk_mul, nI_add, Option.toList, List.cons_append, List.nil_append, br, hb, zI_0, if_true, if_false, eq_self, not_true_eq_false, not_false_eq_true, r_execute hp han (show m < 2000 by omega)]
        · have h11 : ¬ kx X a = 11 := by
            intro z
            rw [z] at hb
            exact absurd hb (by decide)
          obtain ⟨t1, t2⟩ := lt_at ht han hb (by omega)
          have htk := r_isTaken (v := v) (o := o) (m := m) (st := st) hp han hb
          have htnx : hs = true → a + 2 ≤ n ∧ (X a 4 = nI 0 ∨ X a 4 = nI 1) ∧ kBr (kx X (a + 1)) = false ∧ ¬ kx X (a + 1) = 11 := by
            intro z
            obtain ⟨w1, w2, w3, w4, w5, _⟩ := hp.2.2.1 z
            have := w3 a han hb
            refine ⟨by omega, ?_, (w5 a han hb).1, (w5 a han hb).2⟩
            rcases w4 a han with w | w
            · exact Or.inl w
            · exact Or.inr w.1
          have hnx : nxX X hs a v ≤ n := by
            unfold nxX
            split
            · exact t2
            · cases hs
              · simp only [reduceCtorEq, if_false]
                omega
              · simp only [if_true]
                exact (htnx rfl).1
          have T152 : ∀ v2 o2 m2 st2, Run sc n_X10_runs 152 [aD 51, aI (zI hs), aI (nI L), aI (nI n), aI (nI a), aI (nI (kx X a)), aI (zI (tkX X a v))] none [] (rS h φ ρ v2 o2 m2 st2) = Run sc n_X10_runs 29 [aD 51, aI (zI hs), aI (nI L), aI (nI n), aI (nI (nxX X hs a v)), aI (nI (kx X a)), aI (zI (tkX X a v))] none [] (rS h φ ρ v2 o2 m2 st2) := by
            intro v2 o2 m2 st2
            unfold nxX
            cases tkX X a v
            · cases hs <;> simp only [e_X10_runs_152, e_X10_runs_168, e_X10_runs_174, e_X10_runs_178, e_X10_runs_179, e_X10_runs_180, e_X10_runs_182, bO_some, bF_I, bF_D, bF_C, bC_v, pk_mul, nI_add, Option.toList, List.cons_append, List.nil_append, zI_0, if_true, if_false, eq_self, not_true_eq_false, not_false_eq_true, reduceCtorEq]
            · simp only [e_X10_runs_152, e_X10_runs_157, e_X10_runs_165, e_X10_runs_180, e_X10_runs_182, rS_ok, rS_18, rS_19, rS_20, rS_21, rS_p21, rS_p20, bO_some, bF_I, bF_D, bF_C, bC_v, pk_mul, nI_add, Option.toList, List.cons_append, List.nil_append, zI_0, if_true, if_false, eq_self, not_true_eq_false, not_false_eq_true, reduceCtorEq, e3, t1]
          have T114 : Run sc n_X10_runs 114 [aD 51, aI (zI hs), aI (nI L), aI (nI n), aI (nI a), aI (nI (kx X a)), aI (zI (tkX X a v))] none [] (rS h φ ρ v o m (st + 1)) = Run sc n_X10_runs (if dueX X hs a v = true then 133 else 152) [aD 51, aI (zI hs), aI (nI L), aI (nI n), aI (nI a), aI (nI (kx X a)), aI (zI (tkX X a v))] none [] (rS h φ ρ v o m (st + 1)) := by
            unfold dueX
            cases hs
            · simp only [e_X10_runs_114, zI_0, if_true, if_false, eq_self, not_true_eq_false, not_false_eq_true, Bool.false_and, reduceCtorEq]
            · cases tkX X a v
              · have e4 := hp.2.2.2.2 rfl v o m (st + 1) a han
                rcases (htnx rfl).2.1 with h4 | h4
                · rw [h4] at e4
                  simp only [e_X10_runs_114, e_X10_runs_118, e_X10_runs_123, e_X10_runs_130, rS_ok, rS_18, rS_19, rS_20, rS_21, rS_p21, rS_p20, bO_some, bF_I, bF_D, bF_C, bC_v, pk_mul, nI_add, Option.toList, List.cons_append, List.nil_append, zI_0, if_true, if_false, eq_self, not_true_eq_false, not_false_eq_true, reduceCtorEq, e4, h4, show (nI 0 = 0) = True from eq_true (by decide), show (nI 0 = nI 1) = False from eq_false (by decide), Bool.true_and, Bool.false_or, decide_false, Bool.not_false]
                · rw [h4] at e4
                  simp only [e_X10_runs_114, e_X10_runs_118, e_X10_runs_123, e_X10_runs_130, rS_ok, rS_18, rS_19, rS_20, rS_21, rS_p21, rS_p20, bO_some, bF_I, bF_D, bF_C, bC_v, pk_mul, nI_add, Option.toList, List.cons_append, List.nil_append, zI_0, if_true, if_false, eq_self, not_true_eq_false, not_false_eq_true, reduceCtorEq, e4, h4, show (nI 1 = 0) = False from eq_false (by decide), Bool.true_and, Bool.false_or, decide_true, Bool.not_true]
              · simp only [e_X10_runs_114, e_X10_runs_118, zI_0, if_true, if_false, eq_self, not_true_eq_false, not_false_eq_true, reduceCtorEq, Bool.true_and, Bool.true_or]
          have hrun : ∀ v6, Run sc n_X10_runs (if ¬ kx X a = 11 then 74 else 62) [aD 51, aI (zI hs), aI (nI L), aI (nI n), aI (nI a), aI (nI (kx X a)), v6] none [] (rS h φ ρ v o m st) = Run sc n_X10_runs (if dueX X hs a v = true then 133 else 152) [aD 51, aI (zI hs), aI (nI L), aI (nI n), aI (nI a), aI (nI (kx X a)), aI (zI (tkX X a v))] none [] (rS h φ ρ v o m (st + 1)) := by
            intro v6
            rw [← T114]
            simp only [h11, not_false_eq_true, if_true, e_X10_runs_74, e_X10_runs_79, e_X10_runs_95, e_X10_runs_102, e_X10_runs_109, rS_ok, rS_18, rS_19, rS_20, rS_21, rS_p21, rS_p20, bO_some, bF_I, bF_D, bF_C, bC_v, pk_mul, nI_add, Option.toList, List.cons_append, List.nil_append, br, hb, zI_0, if_true, if_false, eq_self, not_true_eq_false, not_false_eq_true, reduceCtorEq, htk]
          rw [hrun]
          cases hdu : dueX X hs a v
          · have hc1 : cs1 X n hs (a, none, v, o, m, st) = (nxX X hs a v, none, v, o, m, st + 1) := by
              unfold cs1
              simp only [hb, if_true, hdu, reduceCtorEq, if_false]
            rw [hc1, if_neg (by decide), T152]
            exact ih d (by omega) (nxX X hs a v) v o m (st + 1) _ _ (by omega) hnx (by omega)
          · have hhs : hs = true := by
              unfold dueX at hdu
              rw [Bool.and_eq_true] at hdu
              exact hdu.1
            subst hhs
            obtain ⟨w1, w2, w3, w4⟩ := htnx rfl
            have hc1 : cs1 X n true (a, none, v, o, m, st) = (a + 1, some (nxX X true a v), v, o, m, st + 1) := by
              unfold cs1
              simp only [hb, if_true, hdu]
            rw [hc1, if_pos rfl]
            by_cases hd1 : d = 0
            · subst hd1
              refine ⟨v, o, m, st + 1, ?_, fun z => ?_⟩
              · show _ = (some (.inl (some (aI (zI (decide (n ≤ a + 1))))), rS h φ ρ v o m (st + 1)) : Option Res)
                rw [decide_eq_false (by omega)]
                simp only [e_X10_runs_133, e_X10_runs_137, e_X10_runs_141, rS_ok, rS_18, rS_19, rS_20, rS_21, rS_p21, rS_p20, bO_some, bF_I, bF_D, bF_C, bC_v, pk_mul, nI_add, Option.toList, List.cons_append, List.nil_append, show st + 1 = L by omega, not_true_eq_false, if_false]
                rfl
              · have z2 : n ≤ a + 1 := z
                omega
            · obtain ⟨d, rfl⟩ : ∃ e, d = e + 1 := ⟨d - 1, by omega⟩
              rw [cs_step (s := (a + 1, some (nxX X true a v), v, o, m, st + 1)) (show a + 1 < n by omega)]
              have hc2 : cs1 X n true (a + 1, some (nxX X true a v), v, o, m, st + 1) = (nxX X true a v, none, pfV X (a + 1) v, pfO X (a + 1) v o m, pfN X (a + 1) m, st + 1 + 1) := by
                unfold cs1
                simp only [w3, reduceCtorEq, if_false, w4, Option.getD_some]
              rw [hc2]
              have hpn : pfN X (a + 1) m ≤ m + 1 := by
                unfold pfN
                split <;> omega
              have h3 : ¬ nI (st + 1) = nI L := fun z => by
                have := nI_inj (by omega) (by omega) z
                omega
              obtain ⟨v', o', m', st', q1, q2⟩ := ih d (by omega) (nxX X true a v) (pfV X (a + 1) v) (pfO X (a + 1) v o m) (pfN X (a + 1) m) (st + 1 + 1) (aI (nI (kx X a))) (aI (zI (tkX X a v))) (by omega) hnx (by omega)
              refine ⟨v', o', m', st', ?_, q2⟩
              rw [← q1, ← T152]
              have ex := r_execute (i := a + 1) (v := v) (o := o) (m := m) (st := st + 1) hp (show a + 1 < n by omega) (show m < 2000 by omega)
              rw [show zI true = nI 1 from rfl] at ex
              simp only [e_X10_runs_133, e_X10_runs_137, e_X10_runs_143, rS_ok, rS_18, rS_19, rS_20, rS_21, rS_p21, rS_p20, bO_some, bF_I, bF_D, bF_C, bC_v, pk_mul, nI_add, Option.toList, List.cons_append, List.nil_append, h3, not_false_eq_true, if_true, ex]
      · have han2 : a = n := by omega
        subst han2
        rw [cs_end (s := (a, none, v, o, m, st)) (Nat.lt_irrefl a)]
        refine ⟨v, o, m, st, ?_, fun _ => rfl⟩
        rw [decide_eq_true (Nat.le_refl a), e_X10_runs_29, if_pos (nI_le (Nat.le_refl a) (by omega)), e_X10_runs_185]
        rfl
end
