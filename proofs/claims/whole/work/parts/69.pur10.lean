/-! PURE 10: the class's flow: what is reached -/
def rset (h : AH) (p : Nat) (s : Nat → Int32) : AH := hset h (p + 4) (oI 3 61 s)
section
variable {sc : SC} {h : AH} {p q N n j k : Nat} {f l r w s s' l' r' w' : Nat → Int32} {x x1 x3 : Int32} {v3 v4 v5 : AV}
theorem rset_ne (h1 : ¬ j = p + 4) : hget (rset h p s) j = hget h j := hget_ne h1
theorem rset_rset : rset (rset h p s) p s' = rset h p s' := hset_hset
theorem FL.selfR (g : FL h p q l r w s) : rset h p s = h := hset_self g.2.2.2.2
theorem FL.toR (g : FL h p q l r w s) : FL (rset h p s') p q l r w s' := by
  refine ⟨?_, ?_, ?_, ?_, ?_⟩
  · rw [rset_ne (by omega)]
    exact g.1
  · rw [rset_ne (by omega)]
    exact g.2.1
  · rw [rset_ne (by omega)]
    exact g.2.2.1
  · rw [rset_ne (by omega)]
    exact g.2.2.2.1
  · exact hget_set g.2.2.2.2
theorem PG.flR (g : PG h q N n f) (hd : q + 1 < p) : PG (rset h p s) q N n f := by
  refine ⟨?_, ?_, g.2.2⟩
  · rw [rset_ne (by omega)]
    exact g.1
  · rw [rset_ne (by omega)]
    exact g.2.1
theorem FL.l4 (g : FL h p q l r w s) (hj : j < 61) : ldI sc h (fun t => t == 2 || t == 3) (aD (p + 4)) (nI j) = some (s j) := ldI_D g.2.2.2.2 rfl hj (by omega)
theorem FL.s4 (g : FL h p q l r w s) (b : Bool) (hj : j < 61) : stI h (fun t => t == 2 || t == 3) (p + 4) (nI j) (zI b) = some (rset h p (upd s j (zI b))) := by
  rw [stI_D g.2.2.2.2 rfl hj (by omega)]
  have h1 : narK 3 (zI b) = zI b := by cases b <;> rfl
  rw [h1]
  rfl
theorem c_X2_reach (g : FL h p q l r w s) (hj : j < 61) {c : Bool} (hc : s j = zI c) : Call sc n_X2_reach [aD p, aI (nI j)] h = some (.inl (some (aI (zI (!c)))), rset h p (upd s j (zI true))) := by
  have e1 := g.l4 (sc := sc) hj
  have e2 := g.s4 true hj
  rw [hc] at e1
  rw [show zI true = nI 1 from rfl] at e2 ⊢
  cases c
  · simp only [c0_X2_reach, e_X2_reach_0, e_X2_reach_4, e_X2_reach_6, e_X2_reach_9, e_X2_reach_13, e_X2_reach_14, e_X2_reach_19, e_X2_reach_22, g.f4, bO_some, bF_I, bF_D, bF_C, bC_v, pk_mul, nI_add, Option.toList, List.cons_append, List.nil_append, e1, e2, zI_0, if_true, if_false, eq_self, not_true_eq_false, not_false_eq_true]
    exact bI_t rfl _
  · simp only [c0_X2_reach, e_X2_reach_0, e_X2_reach_4, e_X2_reach_6, e_X2_reach_9, e_X2_reach_13, e_X2_reach_14, e_X2_reach_19, e_X2_reach_22, g.f4, bO_some, bF_I, bF_D, bF_C, bC_v, pk_mul, nI_add, Option.toList, List.cons_append, List.nil_append, e1, e2, zI_0, if_true, if_false, eq_self, not_true_eq_false, not_false_eq_true, reduceCtorEq]
    exact bI_t rfl _
theorem c_reach (g : FL h p q l r w s) (hj : j < 61) {c : Bool} (hc : s' j = zI c) : Call sc n_X2_reach [aD p, aI (nI j)] (rset h p s') = some (.inl (some (aI (zI (!c)))), rset h p (upd s' j (zI true))) := by
  rw [c_X2_reach (g.toR (s' := s')) hj hc, rset_rset]
theorem t55 (a c : Bool) : Run sc n_X2_growReached 55 [aD p, aI (zI a), aI x, aC k] none [aI (zI c)] h = Run sc n_X2_growReached 68 [aD p, aI (zI (c || a)), aI x, aC k] none [] h := by
  cases a <;> cases c <;> simp only [e_X2_growReached_55, e_X2_growReached_58, e_X2_growReached_62, e_X2_growReached_66, e_X2_growReached_67, zI_0, if_true, if_false, eq_self, not_true_eq_false, not_false_eq_true, reduceCtorEq] <;> rfl
theorem t82 (a c : Bool) : Run sc n_X2_growReached 82 [aD p, aI (zI a), aI x, aC k] none [aI (zI c)] h = Run sc n_X2_growReached 95 [aD p, aI (zI (c || a)), aI x, aC k] none [] h := by
  cases a <;> cases c <;> simp only [e_X2_growReached_82, e_X2_growReached_85, e_X2_growReached_89, e_X2_growReached_93, e_X2_growReached_94, zI_0, if_true, if_false, eq_self, not_true_eq_false, not_false_eq_true, reduceCtorEq] <;> rfl
theorem t116 (a c : Bool) : Run sc n_X2_growReached 116 [aD p, aI (zI a), aI x, aC k] none [aI (zI c)] h = Run sc n_X2_growReached 129 [aD p, aI (zI (c || a)), aI x, aC k] none [] h := by
  cases a <;> cases c <;> simp only [e_X2_growReached_116, e_X2_growReached_119, e_X2_growReached_123, e_X2_growReached_127, e_X2_growReached_128, zI_0, if_true, if_false, eq_self, not_true_eq_false, not_false_eq_true, reduceCtorEq] <;> rfl
theorem beq_f {a b : Nat} (hh : ¬ a = b) : Nat.beq a b = false := by
  cases h7 : Nat.beq a b
  · rfl
  · exact absurd (Nat.eq_of_beq_eq_true h7) hh
theorem updB {b : Nat → Bool} (hs : ∀ i, i ≤ n → s i = zI (b i)) (t : Nat) : ∀ i, i ≤ n → upd s t (zI true) i = zI (b i || Nat.beq i t) := by
  intro i hi
  rw [upd_eq]
  by_cases h9 : i = t
  · rw [if_pos h9, h9, show Nat.beq t t = true from Nat.beq_refl _, Bool.or_true]
  · rw [if_neg h9, beq_f h9, Bool.or_false, hs _ hi]
theorem l_X2_growReached (g : FL h p q l r w s) (gp : PG h q N n f) (hd : q + 1 < p) (hv : VK n (xC n f)) (ht : VT n (xC n f)) (hb9 : VB n (xC n f)) : ∀ d k, k + d = n → ∀ s' (b : Nat → Bool) a v3, (∀ i, i ≤ n → s' i = zI (b i)) → ∃ s'', Run sc n_X2_growReached 4 [aD p, aI (zI a), aI (nI k), v3] none [] (rset h p s') = some (.inl (some (aI (zI (a || gB (xC n f) d k b)))), rset h p s'') ∧ (∀ i, i ≤ n → s'' i = zI (rrB (xC n f) d k b i)) := by
  have hn := gp.n60
  intro d
  induction d with
  | zero =>
    intro k hk s' b a v3 hs
    have hkn : k = n := by omega
    subst hkn
    refine ⟨s', ?_, hs⟩
    simp only [e_X2_growReached_0, e_X2_growReached_4, e_X2_growReached_9, e_X2_growReached_12, e_X2_growReached_15, e_X2_growReached_19, e_X2_growReached_21, e_X2_growReached_24, e_X2_growReached_27, e_X2_growReached_31, e_X2_growReached_35, e_X2_growReached_40, e_X2_growReached_43, e_X2_growReached_48, e_X2_growReached_52, e_X2_growReached_55, e_X2_growReached_58, e_X2_growReached_62, e_X2_growReached_66, e_X2_growReached_67, e_X2_growReached_68, e_X2_growReached_72, e_X2_growReached_75, e_X2_growReached_82, e_X2_growReached_85, e_X2_growReached_89, e_X2_growReached_93, e_X2_growReached_94, e_X2_growReached_95, e_X2_growReached_99, e_X2_growReached_102, e_X2_growReached_109, e_X2_growReached_116, e_X2_growReached_119, e_X2_growReached_123, e_X2_growReached_127, e_X2_growReached_128, e_X2_growReached_129, e_X2_growReached_135, (g.toR (s' := s')).f0, (gp.flR (s := s') hd).f1, bO_some, bF_I, bF_D, bF_C, bC_v, pk_mul, nI_add, Option.toList, List.cons_append, List.nil_append, nI_le (Nat.le_refl k) (show k < 2 ^ 31 by omega), if_true, gB, Bool.or_false]
    exact bI_t (zI_ret a) _
  | succ d ih =>
    intro k hk s' b a v3 hs
    have hkn : k < n := by omega
    have h1 : ¬ nI n ≤ nI k := nI_ge (by omega) (by omega)
    have k1 := (hv k hkn).2
    have g1 := fun s' => g.toR (s' := s')
    have gp1 := fun s' => gp.flR (s := s') hd
    have f0 := fun s' => (g1 s').f0 (sc := sc)
    have f4 := fun s' => (g1 s').f4 (sc := sc)
    have ok := fun s' => bI_t ((gp1 s').ok (sc := sc))
    have okp := fun s' => bI_t ((g1 s').ok (sc := sc))
    have e0 := (g1 s').l4 (sc := sc) (show k < 61 by omega)
    rw [hs k (by omega)] at e0
    have e1 := fun s' => c_X6_kind (sc := sc) (gp1 s') hv hkn
    have e2 := fun s' => c_X6_target (sc := sc) (gp1 s') hkn
    have b1 := fun r => bI_t (acOK k1 (show 1 ≤ 12 ∧ 12 < 13 by omega)) r
    rw [e_X2_growReached_4]
    simp only [e_X2_growReached_9, e_X2_growReached_12, e_X2_growReached_15, e_X2_growReached_19, e_X2_growReached_21, f0, f4, (gp1 s').f1, e0, bO_some, bF_I, bF_D, bF_C, bC_v, pk_mul, nI_add, Option.toList, List.cons_append, List.nil_append, h1, if_false]
    by_cases hbk : b k = true
    · rw [hbk]
      simp only [e_X2_growReached_27, e_X2_growReached_31, e_X2_growReached_35, f0, ok, e1, bO_some, bF_I, bF_D, bF_C, bC_v, pk_mul, nI_add, Option.toList, List.cons_append, List.nil_append, zI_0, if_true, if_false, eq_self, not_true_eq_false, not_false_eq_true, reduceCtorEq, kf_br k1]
      by_cases hb : kBr (kx (xC n f) k) = true
      · obtain ⟨t1, t2⟩ := lt_at ht hkn hb (by omega)
        have hk2 := hb9 k hkn hb
        rw [t1] at e2
        have e3 := c_reach (sc := sc) g (show ltX (xC n f) k < 61 by omega) (hs _ t2)
        simp only [e_X2_growReached_40, e_X2_growReached_43, e_X2_growReached_48, e_X2_growReached_52, hb, f0, ok, okp, e2, e3, bO_some, bF_I, bF_D, bF_C, bC_v, pk_mul, nI_add, Option.toList, List.cons_append, List.nil_append, zI_0, if_true, if_false, eq_self, not_true_eq_false, not_false_eq_true, reduceCtorEq, t55]
        by_cases hc : kCo (kx (xC n f) k) = true
        · have e4 := c_reach (sc := sc) g (show k + 2 < 61 by omega) (updB hs (ltX (xC n f) k) (k + 2) (by omega))
          have hz : ∀ i, i ≤ n → upd (upd s' (ltX (xC n f) k) (zI true)) (k + 2) (zI true) i = zI (rcB (xC n f) k b i) := by
            intro i hi
            rw [updB (updB hs (ltX (xC n f) k)) (k + 2) i hi]
            unfold rcB nxB
            rw [hb, hc, hbk, Bool.or_assoc]
            simp only [Bool.true_and, Bool.not_true, Bool.false_and, Bool.or_false]
          obtain ⟨s'', h8, h9⟩ := ih (k + 1) (by omega) _ (rcB (xC n f) k b) (!(b (k + 2) || Nat.beq (k + 2) (ltX (xC n f) k)) || (!b (ltX (xC n f) k) || a)) (aC (kx (xC n f) k + 1)) hz
          refine ⟨s'', ?_, h9⟩
          have hq : (a || gB (xC n f) (d + 1) k b) = ((!(b (k + 2) || Nat.beq (k + 2) (ltX (xC n f) k)) || (!b (ltX (xC n f) k) || a)) || gB (xC n f) d (k + 1) (rcB (xC n f) k b)) := by
            simp only [gB, chB, hb, hc, hbk, Bool.true_and, Bool.not_true, Bool.false_and, Bool.or_false]
            cases a <;> cases b (ltX (xC n f) k) <;> cases (b (k + 2) || Nat.beq (k + 2) (ltX (xC n f) k)) <;> simp
          rw [hq, ← h8]
          simp only [e_X2_growReached_68, e_X2_growReached_72, e_X2_growReached_75, e_X2_growReached_95, e_X2_growReached_99, e_X2_growReached_129, kf_co k1, kf_br k1, hb, hc, okp, e4, bO_some, bF_I, bF_D, bF_C, bC_v, pk_mul, nI_add, Option.toList, List.cons_append, List.nil_append, zI_0, if_true, if_false, eq_self, not_true_eq_false, not_false_eq_true, reduceCtorEq, t82]
        · rw [Bool.not_eq_true] at hc
          have hz : ∀ i, i ≤ n → upd s' (ltX (xC n f) k) (zI true) i = zI (rcB (xC n f) k b i) := by
            intro i hi
            rw [updB hs (ltX (xC n f) k) i hi]
            unfold rcB nxB
            rw [hb, hc, hbk]
            simp only [Bool.true_and, Bool.not_true, Bool.false_and, Bool.or_false]
          obtain ⟨s'', h8, h9⟩ := ih (k + 1) (by omega) _ (rcB (xC n f) k b) (!b (ltX (xC n f) k) || a) (aC (kx (xC n f) k + 1)) hz
          refine ⟨s'', ?_, h9⟩
          have hq : (a || gB (xC n f) (d + 1) k b) = ((!b (ltX (xC n f) k) || a) || gB (xC n f) d (k + 1) (rcB (xC n f) k b)) := by
            simp only [gB, chB, hb, hc, hbk, Bool.true_and, Bool.not_true, Bool.false_and, Bool.or_false]
            cases a <;> cases b (ltX (xC n f) k) <;> simp
          rw [hq, ← h8]
          simp only [e_X2_growReached_68, e_X2_growReached_72, e_X2_growReached_95, e_X2_growReached_99, e_X2_growReached_129, kf_co k1, kf_br k1, hb, hc, bO_some, bF_I, bF_D, bF_C, bC_v, pk_mul, nI_add, Option.toList, List.cons_append, List.nil_append, zI_0, if_true, if_false, eq_self, not_true_eq_false, not_false_eq_true, reduceCtorEq]
      · rw [Bool.not_eq_true] at hb
        have hc : kCo (kx (xC n f) k) = false := by
          cases h7 : kCo (kx (xC n f) k)
          · rfl
          · rw [kCo_kBr h7] at hb
            cases hb
        by_cases h11 : kx (xC n f) k = 11
        · have hz : rcB (xC n f) k b = b := by
            funext i
            unfold rcB nxB
            rw [hb, hc, h11]
            simp
          obtain ⟨s'', h8, h9⟩ := ih (k + 1) (by omega) s' b a (aC (kx (xC n f) k + 1)) hs
          refine ⟨s'', ?_, ?_⟩
          · have hq : (a || gB (xC n f) (d + 1) k b) = (a || gB (xC n f) d (k + 1) b) := by
              show (a || (chB (xC n f) k b || gB (xC n f) d (k + 1) (rcB (xC n f) k b))) = _
              rw [hz, ch_b hz, Bool.false_or]
            rw [hq, ← h8]
            have n11 : kx (xC n f) k + 1 = 12 := by omega
            simp only [e_X2_growReached_40, e_X2_growReached_68, e_X2_growReached_72, e_X2_growReached_95, e_X2_growReached_99, e_X2_growReached_102, e_X2_growReached_129, b1, kf_co k1, kf_br k1, hb, hc, eq_true n11, bO_some, bF_I, bF_D, bF_C, bC_v, pk_mul, nI_add, Option.toList, List.cons_append, List.nil_append, zI_0, if_true, if_false, eq_self, not_true_eq_false, not_false_eq_true, reduceCtorEq]
          · intro i hi
            rw [h9 i hi]
            show _ = zI (rrB (xC n f) d (k + 1) (rcB (xC n f) k b) i)
            rw [hz]
        · have e4 := c_reach (sc := sc) g (show k + 1 < 61 by omega) (hs (k + 1) (by omega))
          have hz : ∀ i, i ≤ n → upd s' (k + 1) (zI true) i = zI (rcB (xC n f) k b i) := by
            intro i hi
            rw [updB hs (k + 1) i hi]
            unfold rcB nxB
            rw [hb, hc, hbk, beq_f h11]
            simp only [Bool.true_and, Bool.not_false, Bool.false_and, Bool.false_or]
          obtain ⟨s'', h8, h9⟩ := ih (k + 1) (by omega) _ (rcB (xC n f) k b) (!b (k + 1) || a) (aC (kx (xC n f) k + 1)) hz
          refine ⟨s'', ?_, h9⟩
          have hq : (a || gB (xC n f) (d + 1) k b) = ((!b (k + 1) || a) || gB (xC n f) d (k + 1) (rcB (xC n f) k b)) := by
            simp only [gB, chB, hb, hc, hbk, beq_f h11, Bool.true_and, Bool.not_false, Bool.false_and, Bool.false_or]
            cases a <;> cases b (k + 1) <;> simp
          rw [hq, ← h8]
          have n11 : ¬ kx (xC n f) k + 1 = 12 := by omega
          simp only [e_X2_growReached_40, e_X2_growReached_68, e_X2_growReached_72, e_X2_growReached_95, e_X2_growReached_99, e_X2_growReached_102, e_X2_growReached_109, e_X2_growReached_129, b1, kf_co k1, kf_br k1, hb, hc, n11, okp, e4, bO_some, bF_I, bF_D, bF_C, bC_v, pk_mul, nI_add, Option.toList, List.cons_append, List.nil_append, zI_0, if_true, if_false, eq_self, not_true_eq_false, not_false_eq_true, reduceCtorEq, t116]
    · rw [Bool.not_eq_true] at hbk
      have hz : rcB (xC n f) k b = b := by
        funext i
        unfold rcB
        rw [hbk]
        simp
      obtain ⟨s'', h8, h9⟩ := ih (k + 1) (by omega) s' b a v3 hs
      refine ⟨s'', ?_, ?_⟩
      · have hq : (a || gB (xC n f) (d + 1) k b) = (a || gB (xC n f) d (k + 1) b) := by
          show (a || (chB (xC n f) k b || gB (xC n f) d (k + 1) (rcB (xC n f) k b))) = _
          rw [hz, ch_b hz, Bool.false_or]
        rw [hq, ← h8, hbk]
        simp only [e_X2_growReached_24, e_X2_growReached_129, bO_some, bF_I, bF_D, bF_C, bC_v, pk_mul, nI_add, Option.toList, List.cons_append, List.nil_append, zI_0, if_true, if_false, eq_self, not_true_eq_false, not_false_eq_true, reduceCtorEq]
      · intro i hi
        rw [h9 i hi]
        show _ = zI (rrB (xC n f) d (k + 1) (rcB (xC n f) k b) i)
        rw [hz]
theorem c_X2_growReached (g : FL h p q l r w s) (gp : PG h q N n f) (hd : q + 1 < p) (hv : VK n (xC n f)) (ht : VT n (xC n f)) (hb9 : VB n (xC n f)) {b : Nat → Bool} (hs : ∀ i, i ≤ n → s' i = zI (b i)) : ∃ s'', Call sc n_X2_growReached [aD p] (rset h p s') = some (.inl (some (aI (zI (gB (xC n f) n 0 b)))), rset h p s'') ∧ (∀ i, i ≤ n → s'' i = zI (rrB (xC n f) n 0 b i)) := by
  have h1 := l_X2_growReached (sc := sc) g gp hd hv ht hb9 n 0 (by omega) s' b false aU hs
  rw [c0_X2_growReached, e_X2_growReached_0]
  exact h1
theorem l_X2_un_0 (g : FL h p q l r w s) (gp : PG h q N n f) (hd : q + 1 < p) : ∀ d k, k + d = n + 1 → ∀ s', (∀ i, i < k → s' i = nI 0) → ∃ s'', Run sc n_X2_unreachable 2 [aD p, aI (nI k), aU, aU] none [] (rset h p s') = Run sc n_X2_unreachable 37 [aD p, aI (nI 1), aI (nI 0), aU] none [] (rset h p s'') ∧ (∀ i, i ≤ n → s'' i = zI (rsB (xC n f) n 0 i)) := by
  have hn := gp.n60
  intro d
  induction d with
  | zero =>
    intro k hk s' hs
    have hkn : k = n + 1 := by omega
    subst hkn
    have h1 : nI n < nI (n + 1) := Int32.not_le.mp (nI_ge (by omega) (by omega))
    have e1 := (g.toR (s' := s')).s4 true (show 0 < 61 by omega)
    rw [show zI true = nI 1 from rfl, rset_rset] at e1
    refine ⟨upd s' 0 (nI 1), ?_, ?_⟩
    · simp only [e_X2_unreachable_2, e_X2_unreachable_7, e_X2_unreachable_10, e_X2_unreachable_26, e_X2_unreachable_30, e_X2_unreachable_33, (g.toR (s' := s')).f0, (g.toR (s' := s')).f4, (gp.flR (s := s') hd).f1, bO_some, bF_I, bF_D, bF_C, bC_v, pk_mul, nI_add, Option.toList, List.cons_append, List.nil_append, h1, if_true, e1]
    · intro i hi
      show _ = zI (Nat.beq i 0)
      rw [upd_eq]
      by_cases h9 : i = 0
      · rw [if_pos h9, h9]
        rfl
      · rw [if_neg h9, beq_f h9]
        exact hs i (by omega)
  | succ d ih =>
    intro k hk s' hs
    have h1 : ¬ nI n < nI k := Int32.not_lt.mpr (nI_le (by omega) (by omega))
    have e1 := (g.toR (s' := s')).s4 false (show k < 61 by omega)
    rw [show zI false = nI 0 from rfl, rset_rset] at e1
    have h2 := ih (k + 1) (by omega) (upd s' k (nI 0)) (fun i hi => by
      rw [upd_eq]
      split
      · rfl
      · exact hs i (by omega))
    rw [e_X2_unreachable_2]
    simp only [e_X2_unreachable_7, e_X2_unreachable_10, e_X2_unreachable_13, e_X2_unreachable_17, e_X2_unreachable_20, (g.toR (s' := s')).f0, (g.toR (s' := s')).f4, (gp.flR (s := s') hd).f1, bO_some, bF_I, bF_D, bF_C, bC_v, pk_mul, nI_add, Option.toList, List.cons_append, List.nil_append, h1, if_false, e1]
    exact h2
theorem l_X2_un_1 (g : FL h p q l r w s) (gp : PG h q N n f) (hd : q + 1 < p) (hv : VK n (xC n f)) (ht : VT n (xC n f)) (hb9 : VB n (xC n f)) : ∀ d k, k + d = n → ∀ s', (∀ i, i ≤ n → s' i = zI (rsB (xC n f) n k i)) → ∃ s'' x1 x2, Run sc n_X2_unreachable 37 [aD p, aI (nI 1), aI (nI k), aU] none [] (rset h p s') = Run sc n_X2_unreachable 58 [aD p, aI x1, aI x2, aU] none [] (rset h p s'') ∧ (∀ i, i ≤ n → s'' i = zI (rsB (xC n f) n n i)) := by
  have hn := gp.n60
  have hvf := VF_of ht hb9 (show n < 2 ^ 31 by omega)
  intro d
  induction d with
  | zero =>
    intro k hk s' hs
    have hkn : k = n := by omega
    subst hkn
    obtain ⟨s'', e1, e2⟩ := c_X2_growReached (sc := sc) g gp hd hv ht hb9 hs
    have hf := rs_fix hvf
    rw [g_b k 0 _ hf] at e1
    refine ⟨s'', zI false, nI (k + 1), ?_, ?_⟩
    · simp only [e_X2_unreachable_37, e_X2_unreachable_41, e_X2_unreachable_47, e_X2_unreachable_51, show ¬ nI 1 = 0 from by decide, if_false, show ¬ nI 60 < nI k from Int32.not_lt.mpr (nI_le (by omega) (by omega)), bI_t (g.toR (s' := s')).ok, e1, bO_some, bF_I, bF_D, bF_C, bC_v, pk_mul, nI_add, Option.toList, List.cons_append, List.nil_append, zI_0, if_true, if_false, eq_self, not_true_eq_false, not_false_eq_true]
    · intro i hi
      rw [e2 i hi]
      exact congrArg zI (congrFun hf i)
  | succ d ih =>
    intro k hk s' hs
    obtain ⟨s'', e1, e2⟩ := c_X2_growReached (sc := sc) g gp hd hv ht hb9 hs
    by_cases hg : gB (xC n f) n 0 (rsB (xC n f) n k) = true
    · obtain ⟨s3, x1, x2, h3, h4⟩ := ih (k + 1) (by omega) s'' e2
      refine ⟨s3, x1, x2, ?_, h4⟩
      rw [hg] at e1
      rw [← h3]
      simp only [e_X2_unreachable_37, e_X2_unreachable_41, e_X2_unreachable_47, e_X2_unreachable_51, show ¬ nI 1 = 0 from by decide, if_false, show ¬ nI 60 < nI k from Int32.not_lt.mpr (nI_le (by omega) (by omega)), bI_t (g.toR (s' := s')).ok, e1, bO_some, bF_I, bF_D, bF_C, bC_v, pk_mul, nI_add, Option.toList, List.cons_append, List.nil_append, show zI true = nI 1 from rfl]
    · rw [Bool.not_eq_true] at hg
      have h8 := rs_stay (r := k) (g_f n 0 _ hg) (d + 1)
      rw [hk] at h8
      rw [hg] at e1
      refine ⟨s'', zI false, nI (k + 1), ?_, ?_⟩
      · simp only [e_X2_unreachable_37, e_X2_unreachable_41, e_X2_unreachable_47, e_X2_unreachable_51, show ¬ nI 1 = 0 from by decide, if_false, show ¬ nI 60 < nI k from Int32.not_lt.mpr (nI_le (by omega) (by omega)), bI_t (g.toR (s' := s')).ok, e1, bO_some, bF_I, bF_D, bF_C, bC_v, pk_mul, nI_add, Option.toList, List.cons_append, List.nil_append, zI_0, if_true, if_false, eq_self, not_true_eq_false, not_false_eq_true]
      · intro i hi
        rw [e2 i hi, h8]
        exact congrArg zI (congrFun (g_f n 0 _ hg) i)
theorem l_X2_un_2 (g : FL h p q l r w s) (gp : PG h q N n f) (hv : VK n (xC n f)) {b : Nat → Bool} (hs : ∀ i, i ≤ n → s i = zI (b i)) : ∀ d k, k + d = n → Run sc n_X2_unreachable 62 [aD p, aI x1, aI (nI (cnt k (fun k => !slX (xC n f) k && !b k))), aI (nI k)] none [] h = some (.inl (some (aI (nI (cnt n (fun k => !slX (xC n f) k && !b k))))), h) := by
  have hn := gp.n60
  intro d
  induction d with
  | zero =>
    intro k hk
    have hkn : k = n := by omega
    subst hkn
    simp only [e_X2_unreachable_0, e_X2_unreachable_2, e_X2_unreachable_7, e_X2_unreachable_10, e_X2_unreachable_13, e_X2_unreachable_17, e_X2_unreachable_20, e_X2_unreachable_26, e_X2_unreachable_30, e_X2_unreachable_33, e_X2_unreachable_37, e_X2_unreachable_41, e_X2_unreachable_47, e_X2_unreachable_51, e_X2_unreachable_58, e_X2_unreachable_62, e_X2_unreachable_67, e_X2_unreachable_70, e_X2_unreachable_73, e_X2_unreachable_77, e_X2_unreachable_81, e_X2_unreachable_84, e_X2_unreachable_88, e_X2_unreachable_90, e_X2_unreachable_93, e_X2_unreachable_96, e_X2_unreachable_102, g.f0, gp.f1, bO_some, bF_I, bF_D, bF_C, bC_v, pk_mul, nI_add, Option.toList, List.cons_append, List.nil_append, nI_le (Nat.le_refl k) (show k < 2 ^ 31 by omega), if_true]
  | succ d ih =>
    intro k hk
    have h1 : ¬ nI n ≤ nI k := nI_ge (by omega) (by omega)
    have h2 := ih (k + 1) (by omega)
    have e1 := c_X6_isSlot (sc := sc) gp hv (show k ≤ n by omega)
    have e2 := g.l4 (sc := sc) (show k < 61 by omega)
    rw [hs k (by omega)] at e2
    rw [e_X2_unreachable_62]
    simp only [e_X2_unreachable_67, e_X2_unreachable_70, e_X2_unreachable_73, e_X2_unreachable_77, e_X2_unreachable_81, g.f0, gp.f1, bI_t gp.ok, e1, bO_some, bF_I, bF_D, bF_C, bC_v, pk_mul, nI_add, Option.toList, List.cons_append, List.nil_append, h1, if_false]
    by_cases ha : slX (xC n f) k = true
    · simp only [cnt, ha, Bool.not_true, Bool.false_and, reduceCtorEq, if_false, Nat.add_zero] at h2
      simp only [e_X2_unreachable_96, ha, bO_some, bF_I, bF_D, bF_C, bC_v, pk_mul, nI_add, Option.toList, List.cons_append, List.nil_append, zI_0, if_true, if_false, eq_self, not_true_eq_false, not_false_eq_true, reduceCtorEq]
      exact h2
    · rw [Bool.not_eq_true] at ha
      by_cases hb : b k = true
      · simp only [cnt, ha, hb, Bool.not_true, Bool.and_false, reduceCtorEq, if_false, Nat.add_zero] at h2
        simp only [e_X2_unreachable_84, e_X2_unreachable_88, e_X2_unreachable_90, e_X2_unreachable_96, g.f4, e2, ha, hb, bO_some, bF_I, bF_D, bF_C, bC_v, pk_mul, nI_add, Option.toList, List.cons_append, List.nil_append, zI_0, if_true, if_false, eq_self, not_true_eq_false, not_false_eq_true, reduceCtorEq]
        exact h2
      · rw [Bool.not_eq_true] at hb
        simp only [cnt, ha, hb, Bool.not_false, Bool.and_true, if_true] at h2
        simp only [e_X2_unreachable_84, e_X2_unreachable_88, e_X2_unreachable_90, e_X2_unreachable_93, e_X2_unreachable_96, g.f4, e2, ha, hb, bO_some, bF_I, bF_D, bF_C, bC_v, pk_mul, nI_add, Option.toList, List.cons_append, List.nil_append, zI_0, if_true, if_false, eq_self, not_true_eq_false, not_false_eq_true, reduceCtorEq]
        exact h2
theorem c_X2_unreachable (g : FL h p q l r w s) (gp : PG h q N n f) (hd : q + 1 < p) (hv : VK n (xC n f)) (ht : VT n (xC n f)) (hb9 : VB n (xC n f)) : ∃ s', Call sc n_X2_unreachable [aD p] h = some (.inl (some (aI (nI (unX (xC n f) n)))), rset h p s') := by
  obtain ⟨s1, h1, h2⟩ := l_X2_un_0 (sc := sc) g gp hd (n + 1) 0 (by omega) s (fun i hi => by omega)
  rw [g.selfR] at h1
  obtain ⟨s2, x1, x2, h3, h4⟩ := l_X2_un_1 (sc := sc) g gp hd hv ht hb9 n 0 (by omega) s1 h2
  have h5 := l_X2_un_2 (sc := sc) (x1 := x1) (g.toR (s' := s2)) (gp.flR (s := s2) hd) hv h4 n 0 (by omega)
  refine ⟨s2, ?_⟩
  rw [c0_X2_unreachable, e_X2_unreachable_0]
  refine h1.trans ?_
  rw [h3, e_X2_unreachable_58]
  exact h5
end
