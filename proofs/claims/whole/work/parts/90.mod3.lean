/-! PURE 31: the reference: liveness -/
/-- the row of what is live -/
def LO (h : AH) (p : Nat) (fs : List AV) (ql : Nat) (l : Nat → Int32) : Prop := hget h p = some (oO 12 fs) ∧ fs[14]? = some (aD ql) ∧ hget h ql = some (oI 0 62 l)
def lset (h : AH) (ql : Nat) (l : Nat → Int32) : AH := hset h ql (oI 0 62 l)
theorem br_10 {k : Nat} (hk : k < 12) (hb : kBr k = true) : (kCo k = false ∧ k = 10) ∨ (kCo k = true ∧ ¬ k = 10) := by
  rcases twelve hk with rfl | rfl | rfl | rfl | rfl | rfl | rfl | rfl | rfl | rfl | rfl | rfl <;> first | (exact absurd hb (by decide)) | decide
section
variable {sc : SC} {h h' : AH} {p qf ql n i j k b w : Nat} {fs : List AV} {g l l' z : Nat → Int32} {x x1 x2 x3 lo hi : Int32} {S : Nat → Prop} {v2 v3 v4 : AV}
theorem LO.f (o : LO h p fs ql l) : getF sc h (aD p) 12 14 = some (aD ql) := getF_D o.1 o.2.1
theorem LO.ld (o : LO h p fs ql l) (hj : j < 62) : ldI sc h (fun t => t == 0) (aD ql) (nI j) = some (l j) := ldI_D o.2.2 rfl hj (by omega)
theorem LO.st (o : LO h p fs ql l) (hj : j < 62) : stI h (fun t => t == 0) ql (nI j) x = some (lset h ql (upd l j x)) := stI_D o.2.2 rfl hj (by omega)
theorem LO.to (o : LO h p fs ql l) (hp : ¬ p = ql) : LO (lset h ql l') p fs ql l' := ⟨(hget_ne hp).trans o.1, o.2.1, hget_set o.2.2⟩
theorem LO.st2 (o : LO h p fs ql l) (hp : ¬ p = ql) (hj : j < 62) : stI (lset h ql l') (fun t => t == 0) ql (nI j) x = some (lset h ql (upd l' j x)) := by
  rw [(o.to hp).st hj]
  unfold lset
  rw [hset_hset]
theorem LO.self (o : LO h p fs ql l) : lset h ql l = h := hset_self o.2.2
theorem LO.fr (o : LO h p fs ql l) : Fr (fun y => y = ql) h (lset h ql l') := fr_set o.2.2 rfl
theorem FO.lset (o : FO h p fs qf n g) (hp : ¬ p = ql) (hq : ¬ qf = ql) : FO (lset h ql l) p fs qf n g := ⟨(hget_ne hp).trans o.1, o.2.1, (hget_ne hq).trans o.2.2.1, o.2.2.2⟩
theorem c_liveNow (o : FO h p fs qf n g) (ol : LO h p fs ql l) (hv : VK n (xM n g)) (ht : VT n (xM n g)) (hb9 : VB n (xM n g)) (hk : k < n) (hs : slX (xM n g) k = false) : Call sc n_X10_liveNow [aD p, aI (nI k)] h = some (.inl (some (aI (lvX (xM n g) l k))), h) := by
  have hn := o.2.2.2.2
  have k1 := (hv k hk).2
  have e0 := c_atK (sc := sc) o hv hk
  have e3 := c_at (sc := sc) o hk (show 3 < 5 by omega)
  have e4 := c_at (sc := sc) o hk (show 4 < 5 by omega)
  have er := c_X10_reads (sc := sc) o hv hk
  unfold lvX
  rw [hs, if_neg (by decide)]
  simp only [c0_X10_liveNow, e_X10_liveNow_0, e_X10_liveNow_6, e_X10_liveNow_11, bI_t o.ok, e0, c_isBranch k1, bO_some, bF_I, bF_D, bF_C, bC_v, pk_mul, nI_add, Option.toList, List.cons_append, List.nil_append]
  by_cases hb : kBr (kx (xM n g) k) = true
  · obtain ⟨t1, t2⟩ := lt_at ht hk hb (by omega)
    have hk2 := hb9 k hk hb
    rw [t1] at e3
    have T := fun x => c_X10_through (sc := sc) o hv hk2 x
    have e5 := ol.ld (sc := sc) (show ltX (xM n g) k < 62 by omega)
    have e6 := ol.ld (sc := sc) (show k + 2 < 62 by omega)
    rw [if_pos hb]
    simp only [hb, e_X10_liveNow_38, e_X10_liveNow_46, e_X10_liveNow_52, e_X10_liveNow_53, e_X10_liveNow_56, ol.f, bI_t o.ok, e3, e5, T, bO_some, bF_I, bF_D, bF_C, bC_v, pk_mul, nI_add, Option.toList, List.cons_append, List.nil_append, zI_0, if_true, if_false, eq_self, not_true_eq_false, not_false_eq_true, reduceCtorEq, eqI (show kx (xM n g) k < 2 ^ 31 by omega) (show 10 < 2 ^ 31 by omega)]
    rcases br_10 k1 hb with ⟨hc, h10⟩ | ⟨hc, h10⟩
    · simp only [h10, e_X10_liveNow_63, e_X10_liveNow_103, e_X10_liveNow_110, bI_t o.ok, er, bO_some, bF_I, bF_D, bF_C, bC_v, pk_mul, nI_add, Option.toList, List.cons_append, List.nil_append, zI_0, if_true, if_false, eq_self, not_true_eq_false, not_false_eq_true, oz]
      rw [h10] at hc
      rw [hc, if_neg (by decide)]
    · rw [if_pos hc]
      by_cases ha : xM n g k 4 = nI 1
      · simp only [h10, ha, e_X10_liveNow_67, e_X10_liveNow_73, e_X10_liveNow_77, e_X10_liveNow_81, e_X10_liveNow_85, e_X10_liveNow_103, e_X10_liveNow_110, ol.f, bI_t o.ok, e4, e6, er, bO_some, bF_I, bF_D, bF_C, bC_v, pk_mul, nI_add, Option.toList, List.cons_append, List.nil_append, zI_0, if_true, if_false, eq_self, not_true_eq_false, not_false_eq_true]
      · simp only [h10, ha, e_X10_liveNow_67, e_X10_liveNow_73, e_X10_liveNow_88, e_X10_liveNow_96, e_X10_liveNow_100, e_X10_liveNow_103, e_X10_liveNow_110, ol.f, bI_t o.ok, e4, e6, T, er, bO_some, bF_I, bF_D, bF_C, bC_v, pk_mul, nI_add, Option.toList, List.cons_append, List.nil_append, zI_0, if_true, if_false, eq_self, not_true_eq_false, not_false_eq_true]
  · rw [if_neg hb]
    have hb' := hb
    rw [Bool.not_eq_true] at hb'
    simp only [hb', e_X10_liveNow_14, zI_0, if_true, if_false, eq_self, not_true_eq_false, not_false_eq_true, eqI (show kx (xM n g) k < 2 ^ 31 by omega) (show 11 < 2 ^ 31 by omega)]
    by_cases h11 : kx (xM n g) k = 11
    · simp only [h11, e_X10_liveNow_20, e_X10_liveNow_37, bO_some, bF_I, bF_D, bF_C, bC_v, pk_mul, nI_add, Option.toList, List.cons_append, List.nil_append, zI_0, if_true, if_false, eq_self, not_true_eq_false, not_false_eq_true]
      rfl
    · have e6 := ol.ld (sc := sc) (show k + 1 < 62 by omega)
      have T := fun x => c_X10_through (sc := sc) o hv hk x
      simp only [h11, e_X10_liveNow_24, e_X10_liveNow_30, e_X10_liveNow_34, e_X10_liveNow_37, ol.f, bI_t o.ok, e6, T, bO_some, bF_I, bF_D, bF_C, bC_v, pk_mul, nI_add, Option.toList, List.cons_append, List.nil_append, zI_0, if_true, if_false, eq_self, not_true_eq_false, not_false_eq_true]
theorem l_fl_in (o : FO h p fs qf n g) (ol : LO h p fs ql l) (hp : ¬ p = ql) (hq : ¬ qf = ql) (hv : VK n (xM n g)) (ht : VT n (xM n g)) (hb9 : VB n (xM n g)) : ∀ j, j ≤ n → ∀ l', Run sc n_X10_findLives 38 [aD p, aI x1, aI (nI j - nI 1)] none [] (lset h ql l') = Run sc n_X10_findLives 71 [aD p, aI x1, aI (nI 0 - nI 1)] none [] (lset h ql (lrX (xM n g) j l')) := by
  have hn := o.2.2.2.2
  intro j
  induction j with
  | zero =>
    intro _ l'
    rw [e_X10_findLives_38, if_pos (by decide)]
    rfl
  | succ j ih =>
    intro hj l'
    have o1 := o.lset (l := l') hp hq
    have ol1 := ol.to (l' := l') hp
    have e1 := c_X10_isSlot (sc := sc) o1 hv (show j ≤ n by omega)
    have e2 := fun x => ol.st2 (l' := l') (x := x) hp (show j < 62 by omega)
    have h2 := ih (by omega) (upd l' j (lvX (xM n g) l' j))
    show _ = Run sc n_X10_findLives 71 [aD p, aI x1, aI (nI 0 - nI 1)] none [] (lset h ql (lrX (xM n g) j (upd l' j (lvX (xM n g) l' j))))
    rw [← h2, dI_s, e_X10_findLives_38, if_neg (nI_pos (show j < 2 ^ 31 by omega))]
    simp only [e_X10_findLives_42, e_X10_findLives_46, e_X10_findLives_52, ol1.f, bI_t o1.ok, e1, bO_some, bF_I, bF_D, bF_C, bC_v, pk_mul, nI_add, Option.toList, List.cons_append, List.nil_append]
    by_cases hs : slX (xM n g) j = true
    · have hl : lvX (xM n g) l' j = 0 := by
        unfold lvX
        rw [if_pos hs]
      rw [hl]
      simp only [hs, e_X10_findLives_55, e_X10_findLives_64, e_X10_findLives_65, e2, dI_n, bO_some, bF_I, bF_D, bF_C, bC_v, pk_mul, nI_add, Option.toList, List.cons_append, List.nil_append, zI_0, if_true, if_false, eq_self, not_true_eq_false, not_false_eq_true, reduceCtorEq]
      rfl
    · rw [Bool.not_eq_true] at hs
      have e4 := c_liveNow (sc := sc) o1 ol1 hv ht hb9 (show j < n by omega) hs
      simp only [hs, e_X10_findLives_59, e_X10_findLives_64, e_X10_findLives_65, bI_t o1.ok, e4, e2, dI_n, bO_some, bF_I, bF_D, bF_C, bC_v, pk_mul, nI_add, Option.toList, List.cons_append, List.nil_append, zI_0, if_true, if_false, eq_self, not_true_eq_false, not_false_eq_true]
theorem l_fl_out (o : FO h p fs qf n g) (ol : LO h p fs ql l) (hp : ¬ p = ql) (hq : ¬ qf = ql) (hv : VK n (xM n g)) (ht : VT n (xM n g)) (hb9 : VB n (xM n g)) : ∀ d r, r + d = n + 1 → ∀ v2, Run sc n_X10_findLives 23 [aD p, aI (nI r), v2] none [] (lset h ql (lnX (xM n g) n z r)) = some (.inl none, lset h ql (lnX (xM n g) n z (n + 1))) := by
  have hn := o.2.2.2.2
  intro d
  induction d with
  | zero =>
    intro r hr v2
    have : r = n + 1 := by omega
    subst this
    have o1 := o.lset (l := lnX (xM n g) n z (n + 1)) hp hq
    have h1 : nI n < nI (n + 1) := Int32.not_le.mp (nI_ge (by omega) (by omega))
    simp only [e_X10_findLives_23, e_X10_findLives_28, e_X10_findLives_77, bI_t o1.ok, c_entryMany o1, h1, if_true, bO_some, bF_I, bF_D, bF_C, bC_v, pk_mul, nI_add, Option.toList, List.cons_append, List.nil_append]
  | succ d ih =>
    intro r hr v2
    have o1 := o.lset (l := lnX (xM n g) n z r) hp hq
    have h1 : ¬ nI n < nI r := Int32.not_lt.mpr (nI_le (by omega) (by omega))
    rw [e_X10_findLives_23]
    simp only [e_X10_findLives_28, e_X10_findLives_31, e_X10_findLives_35, bI_t o1.ok, c_entryMany o1, h1, if_false, bO_some, bF_I, bF_D, bF_C, bC_v, pk_mul, nI_add, Option.toList, List.cons_append, List.nil_append]
    rw [l_fl_in o ol hp hq hv ht hb9 n (Nat.le_refl n), e_X10_findLives_71, nI_add]
    exact ih (r + 1) (by omega) _
theorem l_fl_0 (ol : LO h p fs ql l) (hp : ¬ p = ql) : ∀ d k, k + d = 62 → ∀ l' v2, (∀ i, i < k → l' i = 0) → ∃ l'', Run sc n_X10_findLives 2 [aD p, aI (nI k), v2] none [] (lset h ql l') = Run sc n_X10_findLives 23 [aD p, aI (nI 0), v2] none [] (lset h ql l'') ∧ (∀ i, i < 62 → l'' i = 0) := by
  intro d
  induction d with
  | zero =>
    intro k hk l' v2 hl
    have : k = 62 := by omega
    subst this
    refine ⟨l', ?_, hl⟩
    rw [e_X10_findLives_2, if_pos (by decide), e_X10_findLives_21]
  | succ d ih =>
    intro k hk l' v2 hl
    have h1 : ¬ nI 61 < nI k := Int32.not_lt.mpr (nI_le (by omega) (by omega))
    obtain ⟨l'', q1, q2⟩ := ih (k + 1) (by omega) (upd l' k (nI 0)) v2 (fun i hi => by
      rw [upd_eq]
      split
      · rfl
      · exact hl i (by omega))
    refine ⟨l'', ?_, q2⟩
    rw [← q1, e_X10_findLives_2, if_neg h1]
    simp only [e_X10_findLives_8, e_X10_findLives_12, e_X10_findLives_15, (ol.to (l' := l') hp).f, ol.st2 hp (show k < 62 by omega), bO_some, bF_I, bF_D, bF_C, bC_v, pk_mul, nI_add, Option.toList, List.cons_append, List.nil_append]
theorem c_findLives (o : FO h p fs qf n g) (ol : LO h p fs ql l) (hp : ¬ p = ql) (hq : ¬ qf = ql) (hv : VK n (xM n g)) (ht : VT n (xM n g)) (hb9 : VB n (xM n g)) : ∃ l', Call sc n_X10_findLives [aD p] h = some (.inl none, lset h ql l') ∧ ∀ i, i ≤ n → l' i = lvAt (xM n g) n i := by
  have hn := o.2.2.2.2
  have hvf := VF_of ht hb9 (show n < 2 ^ 31 by omega)
  obtain ⟨l1, h1, h2⟩ := l_fl_0 (sc := sc) ol hp 62 0 rfl l aU (fun i hi => by omega)
  rw [ol.self] at h1
  have hz : ∀ i, i ≤ n → l1 i = 0 := fun i hi => h2 i (by omega)
  refine ⟨lnX (xM n g) n l1 (n + 1), ?_, ?_⟩
  · rw [c0_X10_findLives, e_X10_findLives_0]
    exact h1.trans (l_fl_out (z := l1) o ol hp hq hv ht hb9 (n + 1) 0 (by omega) aU)
  · intro i hi
    rw [ln_fix hvf hz, ln_same hvf (z' := fun _ => 0) hz n i hi]
    rfl
end
