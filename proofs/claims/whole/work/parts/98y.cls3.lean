/-! PURE 72: the class's calls: the source -/
def RQ (h : AH) (p pr : Nat) : Prop := ∃ a b c d, hget h p = some (oO 9 [a, b, c, d, aD pr])
theorem RQ.f4 {sc : SC} {h : AH} {p pr : Nat} (g : RQ h p pr) : getF sc h (aD p) 9 4 = some (aD pr) := by
  obtain ⟨a, b, c, d, g⟩ := g
  exact getF_D g rfl
theorem RQ.ok {sc : SC} {h : AH} {p pr : Nat} (g : RQ h p pr) : rOK sc h (aD p) 9 = true := by
  obtain ⟨a, b, c, d, g⟩ := g
  exact rOK_D g
def RW (h : AH) (p pr m : Nat) (f : Nat → Int32) : Prop := RQ h p pr ∧ PG h pr 150 m f
section
variable {sc : SC} {h h' : AH} {p pr len pos i j k n m s e : Nat} {num x x1 x2 x3 : Int32} {c f : Nat → Int32} {S : Nat → Prop} {v2 v3 v4 : AV}
theorem w_greatest (hr : RW h p pr m f) (x : Int32) : Call sc n_X7_greatest [aD p, aI x] h = some (.inl (some (aI (gtX m x))), h) := by
  obtain ⟨g, gp⟩ := hr
  unfold gtX
  by_cases h1 : x = nI 111
  · simp only [c0_X7_greatest, e_X7_greatest_0, e_X7_greatest_6, h1, zI_0, if_true, if_false, eq_self, not_true_eq_false, not_false_eq_true]
  · by_cases h2 : x = nI 116
    · simp only [c0_X7_greatest, e_X7_greatest_0, e_X7_greatest_9, e_X7_greatest_15, e_X7_greatest_19, e_X7_greatest_22, h2, show ¬ nI 116 = nI 111 from by decide, g.f4, gp.f1, bO_some, bF_I, bF_D, bF_C, bC_v, pk_mul, nI_add, Option.toList, List.cons_append, List.nil_append, zI_0, if_true, if_false, eq_self, not_true_eq_false, not_false_eq_true]
    · by_cases h3 : x = nI 110
      · simp only [c0_X7_greatest, e_X7_greatest_0, e_X7_greatest_9, e_X7_greatest_23, e_X7_greatest_29, e_X7_greatest_36, h3, show ¬ nI 110 = nI 111 from by decide, show ¬ nI 110 = nI 116 from by decide, bO_some, bF_I, bF_D, bF_C, bC_v, pk_mul, nI_add, Option.toList, List.cons_append, List.nil_append, zI_0, if_true, if_false, eq_self, not_true_eq_false, not_false_eq_true]
      · simp only [c0_X7_greatest, e_X7_greatest_0, e_X7_greatest_9, e_X7_greatest_23, e_X7_greatest_34, e_X7_greatest_36, h1, h2, h3, bO_some, bF_I, bF_D, bF_C, bC_v, pk_mul, nI_add, Option.toList, List.cons_append, List.nil_append, zI_0, if_true, if_false, eq_self, not_true_eq_false, not_false_eq_true]
theorem w_ir2 (hr : RW h p pr m f) (hv : VK m (xC m f)) (hi : i < m) : ∀ d o, o + d = 3 → Run sc n_X7_isInRange 15 [aD p, aI (nI i), aI (nI o)] none [] h = if alB (fun o => decide (xC m f i (1 + o) ≤ gtX m ((fL (kx (xC m f) i)).getD o 0))) d o = true then Run sc n_X7_isInRange 58 [aD p, aI (nI i), aI (nI 3)] none [] h else some (.inl (some (aI (zI false))), h) := by
  obtain ⟨g, gp⟩ := hr
  intro d
  induction d with
  | zero =>
    intro o ho
    have : o = 3 := by omega
    subst this
    rw [e_X7_isInRange_15, if_pos (by decide)]
    rfl
  | succ d ih =>
    intro o ho
    have k1 := (hv i hi).2
    have h1 : ¬ nI 3 ≤ nI o := nI_ge (by omega) (by omega)
    have e1 := c_X6_part (sc := sc) gp hi (show 1 + o < 5 by omega)
    have e2 := c_X6_kind (sc := sc) gp hv hi
    have e3 := c_X4_sign (sc := sc) (h := h) k1 (show o < 3 by omega)
    have e4 := fun x => w_greatest (sc := sc) ⟨g, gp⟩ x
    rw [e_X7_isInRange_15, if_neg h1]
    simp only [e_X7_isInRange_20, e_X7_isInRange_24, e_X7_isInRange_31, e_X7_isInRange_36, e_X7_isInRange_40, e_X7_isInRange_44, e_X7_isInRange_47, g.f4, bI_t gp.ok, bI_t g.ok, bI_t (kok k1), e1, e2, e3, e4, bO_some, bF_I, bF_D, bF_C, bC_v, pk_mul, nI_add, Option.toList, List.cons_append, List.nil_append]
    by_cases hh : xC m f i (1 + o) ≤ gtX m ((fL (kx (xC m f) i)).getD o 0)
    · rw [if_pos hh, e_X7_isInRange_52, nI_add, ih (o + 1) (by omega)]
      simp only [alB, decide_eq_true hh, Bool.true_and]
    · rw [if_neg hh, e_X7_isInRange_50]
      simp only [alB, decide_eq_false hh, Bool.false_and, reduceCtorEq, if_false]
      rfl
theorem w_ir1 (hr : RW h p pr m f) (hv : VK m (xC m f)) : ∀ d i, i + d = m → ∀ v2, Run sc n_X7_isInRange 2 [aD p, aI (nI i), v2] none [] h = some (.inl (some (aI (zI (alB (irI (xC m f) m) d i)))), h) := by
  have hr0 := hr
  obtain ⟨g, gp⟩ := hr
  have hn := gp.n60
  intro d
  induction d with
  | zero =>
    intro i hi v2
    have : i = m := by omega
    subst this
    simp only [e_X7_isInRange_2, e_X7_isInRange_7, e_X7_isInRange_10, e_X7_isInRange_64, g.f4, gp.f1, nI_le (Nat.le_refl i) (show i < 2 ^ 31 by omega), if_true, bO_some, bF_I, bF_D, bF_C, bC_v, pk_mul, nI_add, Option.toList, List.cons_append, List.nil_append]
    rfl
  | succ d ih =>
    intro i hi v2
    have h1 : ¬ nI m ≤ nI i := nI_ge (by omega) (by omega)
    have h2 : Run sc n_X7_isInRange 15 [aD p, aI (nI i), aI (nI 0)] none [] h = if irI (xC m f) m i = true then Run sc n_X7_isInRange 58 [aD p, aI (nI i), aI (nI 3)] none [] h else some (.inl (some (aI (zI false))), h) := w_ir2 (sc := sc) hr0 hv (show i < m by omega) 3 0 rfl
    rw [e_X7_isInRange_2, g.f4, bF_D, e_X7_isInRange_7, gp.f1, bF_I, e_X7_isInRange_10, if_neg h1, e_X7_isInRange_13, h2]
    by_cases hh : irI (xC m f) m i = true
    · rw [if_pos hh, e_X7_isInRange_58, nI_add, ih (i + 1) (by omega)]
      simp only [alB, hh, Bool.true_and]
    · rw [if_neg hh]
      rw [Bool.not_eq_true] at hh
      simp only [alB, hh, Bool.false_and]
theorem w_isInRange (hr : RW h p pr m f) (hv : VK m (xC m f)) : Call sc n_X7_isInRange [aD p] h = some (.inl (some (aI (zI (irB (xC m f) m)))), h) := by
  rw [c0_X7_isInRange, e_X7_isInRange_0]
  exact w_ir1 hr hv m 0 (by omega) aU
theorem w_takes (a1 : hget h 1 = some (oO 9 [aD 2, aI (nI len), aI (nI pos), aI num, aD 3])) (a2 : hget h 2 = some (oI 1 120 c)) (hl : len < 120) (x : Int32) : ∃ h', Call sc n_X7_takes [aD 1, aI x] h = some (.inl (some (aI (zI true))), h') ∧ hget h' 1 = some (oO 9 [aD 2, aI (nI (len + 1)), aI (nI pos), aI num, aD 3]) ∧ hget h' 2 = some (oI 1 120 (upd c len (narK 1 x))) ∧ Fr (fun y => y = 1 ∨ y = 2) h h' := by
  have f0 : getF sc h (aD 1) 9 0 = some (aD 2) := getF_D a1 rfl
  have f1 : getF sc h (aD 1) 9 1 = some (aI (nI len)) := getF_D a1 rfl
  have h3 : nI len < nI 120 := Int32.not_le.mp (nI_ge hl (by omega))
  have e1 : stI h (fun t => t == 1) 2 (nI len) x = some (hset h 2 (oI 1 120 (upd c len (narK 1 x)))) := stI_D a2 rfl hl (by omega)
  have b1 : hget (hset h 2 (oI 1 120 (upd c len (narK 1 x)))) 1 = some (oO 9 [aD 2, aI (nI len), aI (nI pos), aI num, aD 3]) := by
    rw [hget_ne (by omega)]
    exact a1
  have f1' : getF sc (hset h 2 (oI 1 120 (upd c len (narK 1 x)))) (aD 1) 9 1 = some (aI (nI len)) := getF_D b1 rfl
  have e2 : putF (hset h 2 (oI 1 120 (upd c len (narK 1 x)))) 1 9 1 0 (aI (nI (len + 1))) = some (hset (hset h 2 (oI 1 120 (upd c len (narK 1 x)))) 1 (oO 9 [aD 2, aI (nI (len + 1)), aI (nI pos), aI num, aD 3])) := by
    rw [putF_D b1 (show 1 < 5 by decide) rfl]
    rfl
  refine ⟨_, ?_, hget_set b1, ?_, ((fr_set (o := oI 1 120 (upd c len (narK 1 x))) a2 rfl).mono (fun _ z => Or.inr z)).trans ((fr_set (o := oO 9 [aD 2, aI (nI (len + 1)), aI (nI pos), aI num, aD 3]) b1 rfl).mono (fun _ z => Or.inl z))⟩
  · simp only [c0_X7_takes, e_X7_takes_0, e_X7_takes_4, e_X7_takes_9, e_X7_takes_11, e_X7_takes_15, e_X7_takes_19, e_X7_takes_21, e_X7_takes_26, e_X7_takes_31, f0, f1, h3, e1, f1', e2, if_true, bO_some, bF_I, bF_D, bF_C, bC_v, pk_mul, nI_add, Option.toList, List.cons_append, List.nil_append]
    rfl
  · rw [hget_ne (by omega)]
    exact hget_set a2
theorem w_takes0 (a1 : hget h 1 = some (oO 9 [aD 2, aI (nI len), aI (nI pos), aI num, aD 3])) (hl : ¬ len < 120) (hl2 : len ≤ 120) (x : Int32) : Call sc n_X7_takes [aD 1, aI x] h = some (.inl (some (aI (zI false))), h) := by
  have f1 : getF sc h (aD 1) 9 1 = some (aI (nI len)) := getF_D a1 rfl
  have h3 : ¬ nI len < nI 120 := Int32.not_lt.mpr (nI_le (by omega) (by omega))
  simp only [c0_X7_takes, e_X7_takes_0, e_X7_takes_4, e_X7_takes_9, e_X7_takes_11, e_X7_takes_15, e_X7_takes_19, e_X7_takes_21, e_X7_takes_26, e_X7_takes_31, f1, h3, if_false, bO_some, bF_I, bF_D, bF_C, bC_v, pk_mul, nI_add, Option.toList, List.cons_append, List.nil_append]
  rfl
theorem w_readsText (a1 : hget h 1 = some (oO 9 [aD 2, aI (nI len), aI (nI pos), aI num, aD 3])) (a2 : hget h 2 = some (oI 1 120 c)) (a3 : PG h 3 150 m f) (hl : len ≤ 120) : ∃ h' m' f', Call sc n_X7_readsText [aD 1] h = some (.inl (some (aI (zI (rtX c len).1))), h') ∧ RP h' 1 3 len (rtX c len).2.1 c m' f' ∧ ((rtX c len).1 = true → m' = (rtX c len).2.2.1 ∧ xC m' f' = (rtX c len).2.2.2 ∧ len ≤ (rtX c len).2.1) ∧ Fr (SR 1 3) h h' := by
  have fr0 := fr_set (o := oO 9 [aD 2, aI (nI len), aI (nI 0), aI num, aD 3]) a1 rfl
  have b1 : hget (hset h 1 (oO 9 [aD 2, aI (nI len), aI (nI 0), aI num, aD 3])) 1 = some (oO 9 [aD 2, aI (nI len), aI (nI 0), aI num, aD 3]) := hget_set a1
  have b2 : hget (hset h 1 (oO 9 [aD 2, aI (nI len), aI (nI 0), aI num, aD 3])) 2 = some (oI 1 120 c) := (hget_ne (by omega)).trans a2
  obtain ⟨h', m', f', q1, q2, q3, q4⟩ := c_X7_readsText (sc := sc) (p := 1) (pr := 3) (by omega) (show RP (hset h 1 (oO 9 [aD 2, aI (nI len), aI (nI 0), aI num, aD 3])) 1 3 len 0 c m f from ⟨⟨num, b1, b2, hl, Nat.zero_le _⟩, a3.keep fr0 (show ¬ 3 = 1 by omega) (show ¬ 3 + 1 = 1 by omega)⟩)
  refine ⟨h', m', f', ?_, q2, q3, (fr0.mono (fun y z => Or.inl z)).trans q4⟩
  rw [← q1]
  have e1 : putF h 1 9 2 0 (aI (nI 0)) = some (hset h 1 (oO 9 [aD 2, aI (nI len), aI (nI 0), aI num, aD 3])) := by
    rw [putF_D a1 (show 2 < 5 by decide) rfl]
    rfl
  have e2 : putF (hset h 1 (oO 9 [aD 2, aI (nI len), aI (nI 0), aI num, aD 3])) 1 9 2 0 (aI (nI 0)) = some (hset h 1 (oO 9 [aD 2, aI (nI len), aI (nI 0), aI num, aD 3])) := by
    rw [putF_D b1 (show 2 < 5 by decide) rfl]
    show some (hset (hset h 1 _) 1 _) = _
    rw [hset_hset]
    rfl
  rw [c0_X7_readsText, c0_X7_readsText, e_X7_readsText_0, e_X7_readsText_0, e1, e2]
end
section
variable {sc : SC} {h h' : AH} {e km ks len sn n ch : Nat} {c ini : Nat → Int32} {X SX : Nat → Nat → Int32} {H : HTy} {L : List Int32} {K : KTy} {V : VTy}
theorem k_feed (g : CI h len c L sn SX n X ch H ini K V) (hl : len ≤ 120) (x : Int32) : (len < 120 ∧ ∃ h1, Call sc n_X9_feed [aD 0, aI x] h = some (.inl (some (aI (nI (len + 1)))), h1) ∧ CI h1 (len + 1) (upd c len (narK 1 x)) L sn SX n X ch H ini K V ∧ LK SCl 0 h h1) ∨ (¬ len < 120 ∧ ∃ h1, Call sc n_X9_feed [aD 0, aI x] h = some (.inr 0, h1) ∧ CI h1 len c L sn SX n X ch H ini K V ∧ LK SCl 1 h h1) := by
  have g0 := g
  obtain ⟨⟨pos, num, m, f, a1, a2, a3⟩, g2, g3, g4, g5, g6, g7⟩ := g
  have g60 := g6
  obtain ⟨km, ks, bo, _⟩ := g6
  have ok1 : rOK sc h (aD 1) 9 = true := rOK_D a1
  by_cases h1 : len < 120
  · refine Or.inl ⟨h1, ?_⟩
    obtain ⟨h', q1, q2, q3, q4⟩ := w_takes (sc := sc) a1 a2 h1 x
    have lk := LK.of q4
    have bo' := bo.lk lk (show ¬ (0 = 1 ∨ 0 = 2) by omega)
    have fl : getF sc h' (aD 1) 9 1 = some (aI (nI (len + 1))) := getF_D q2 rfl
    refine ⟨h', ?_, ⟨⟨pos, num, m, f, q2, q3, a3.lk lk (show ¬ (3 = 1 ∨ 3 = 2) by omega) (show ¬ (3 + 1 = 1 ∨ 3 + 1 = 2) by omega)⟩, g2.lk lk (fun p hp => by first | omega | (dsimp only; omega)), g3.lk lk (fun p _ _ => by first | omega | (dsimp only; omega)), g4.lk lk (fun p _ _ => by first | omega | (dsimp only; omega)), g5.lk lk (by first | omega | (dsimp only; omega)), g60.lk lk (by first | omega | (dsimp only; omega)) (fun p _ _ => by first | omega | (dsimp only; omega)), g7.lk lk (fun p _ _ => by first | omega | (dsimp only; omega))⟩, lk.mono (fun p z => by unfold SCl; first | omega | (dsimp only at z; omega))⟩
    simp only [c0_X9_feed, e_X9_feed_0, e_X9_feed_4, e_X9_feed_8, e_X9_feed_11, e_X9_feed_21, e_X9_feed_25, e_X9_feed_28, bo.f0, bo'.f0, bO_some, bF_I, bF_D, bF_C, bC_v, pk_mul, nI_add, Option.toList, List.cons_append, List.nil_append, bI_t ok1, q1, zI_0, if_true, if_false, eq_self, not_true_eq_false, not_false_eq_true, reduceCtorEq, fl]
  · refine Or.inr ⟨h1, (h.1, h.2 + 1), ?_, g0.exc, LK.exc _ h⟩
    have q1 := w_takes0 (sc := sc) a1 h1 hl x
    simp only [c0_X9_feed, e_X9_feed_0, e_X9_feed_4, e_X9_feed_8, e_X9_feed_11, e_X9_feed_21, e_X9_feed_25, e_X9_feed_28, bo.f0, bO_some, bF_I, bF_D, bF_C, bC_v, pk_mul, nI_add, Option.toList, List.cons_append, List.nil_append, bI_t ok1, q1, zI_0, if_true, if_false, eq_self, not_true_eq_false, not_false_eq_true]
theorem k_parse (g : CI h len c L sn SX n X ch H ini K V) (hl : len ≤ 120) (hsn : sn ≤ 30) : ∃ h1 E, Call sc n_X9_parse [aD 0] h = (if cdPa (rtX c len) sn = 0 then some (.inl (some (aI (anPa (rtX c len)))), h1) else some (.inr E, h1)) ∧ (cdPa (rtX c len) sn = 1 → E = 1) ∧ (cdPa (rtX c len) sn = 2 → E = 0) ∧ ((rtX c len).1 = true ∧ cdPa (rtX c len) sn = 0 → CI h1 0 c L (sn + (rtX c len).2.2.1) (apdX (rtX c len).2.2.2 sn SX (rtX c len).2.2.1) n X ch H ini K V) ∧ (¬ ((rtX c len).1 = true ∧ cdPa (rtX c len) sn = 0) → CI h1 0 c L sn SX n X ch H ini K V) ∧ ∃ e, e ≤ 1 ∧ LK SCl e h h1 := by
  obtain ⟨⟨pos, num, m, f, a1, a2, a3⟩, g2, g3, g4, g5, g6, g7⟩ := g
  obtain ⟨h2, m2, f2, q1, ⟨⟨num2, b1, b2, b3, b4⟩, b5⟩, q3, q4⟩ := w_readsText (sc := sc) a1 a2 a3 hl
  have hok := rt_ok (c := c) hl
  have lk2 := LK.of q4
  have fr3 := fr_set (o := oO 9 [aD 2, aI (nI 0), aI (nI (rtX c len).2.1), aI num2, aD 3]) b1 rfl
  have lk3 := LK.of fr3
  have lk : LK (SR 1 3) 0 h (hset h2 1 (oO 9 [aD 2, aI (nI 0), aI (nI (rtX c len).2.1), aI num2, aD 3])) := lk2.trans (lk3.mono (fun p z => Or.inl z))
  have c1 : hget (hset h2 1 (oO 9 [aD 2, aI (nI 0), aI (nI (rtX c len).2.1), aI num2, aD 3])) 1 = some (oO 9 [aD 2, aI (nI 0), aI (nI (rtX c len).2.1), aI num2, aD 3]) := hget_set b1
  have c2 : hget (hset h2 1 (oO 9 [aD 2, aI (nI 0), aI (nI (rtX c len).2.1), aI num2, aD 3])) 2 = some (oI 1 120 c) := (hget_ne (by omega)).trans b2
  have c3 := b5.lk lk3 (show ¬ 3 = 1 by omega) (show ¬ 3 + 1 = 1 by omega)
  have e1 : putF h2 1 9 1 0 (aI (nI 0)) = some (hset h2 1 (oO 9 [aD 2, aI (nI 0), aI (nI (rtX c len).2.1), aI num2, aD 3])) := by
    rw [putF_D b1 (show 1 < 5 by decide) rfl]
    rfl
  have hSR : ∀ p, SR 1 3 p → p < 51 := fun p z => by
    unfold SR at z
    omega
  have hS1 : ∀ p, p = 0 ∨ 5 ≤ p → ¬ SR 1 3 p := fun p hp => by
    unfold SR
    omega
  have g2' := g2.lk lk (fun p hp => hS1 p (by omega))
  have g3' := g3.lk lk (fun p _ _ => hS1 p (by omega))
  have g4' := g4.lk lk (fun p _ _ => hS1 p (by omega))
  have g5' := g5.lk lk (hS1 35 (by omega))
  have g6' := g6.lk lk (hS1 0 (by omega)) (fun p _ _ => hS1 p (by omega))
  have g7' := g7.lk lk (fun p _ _ => hS1 p (by omega))
  obtain ⟨km, ks, bo, _⟩ := g6
  have bo2 := bo.lk lk2 (hS1 0 (by omega))
  have bo3 := bo.lk lk (hS1 0 (by omega))
  have lks := lk.mono (T := SCl) hSR
  have ok1 : rOK sc h (aD 1) 9 = true := rOK_D a1
  generalize hset h2 1 (oO 9 [aD 2, aI (nI 0), aI (nI (rtX c len).2.1), aI num2, aD 3]) = h3 at *
  have fp : getF sc h3 (aD 1) 9 2 = some (aI (nI (rtX c len).2.1)) := getF_D c1 rfl
  have f4 : getF sc h3 (aD 1) 9 4 = some (aD 3) := getF_D c1 rfl
  have ok3 : rOK sc h3 (aD 1) 9 = true := rOK_D c1
  generalize rtX c len = r at *
  obtain ⟨ok, rpos, rm, rX⟩ := r
  simp only at *
  cases ok
  · have hcd : cdPa (false, rpos, rm, rX) sn = 0 := rfl
    rw [hcd]
    refine ⟨h3, 0, ?_, (fun z => by cases z), (fun z => by cases z), (fun z => by cases z.1), fun _ => ⟨⟨rpos, num2, m2, f2, c1, c2, c3⟩, g2', g3', g4', g5', g6', g7'⟩, 0, by omega, lks⟩
    simp only [c0_X9_parse, e_X9_parse_0, e_X9_parse_4, e_X9_parse_7, e_X9_parse_12, e_X9_parse_16, e_X9_parse_20, e_X9_parse_26, e_X9_parse_29, e_X9_parse_31, e_X9_parse_35, e_X9_parse_38, e_X9_parse_43, e_X9_parse_46, e_X9_parse_49, e_X9_parse_59, e_X9_parse_63, e_X9_parse_66, e_X9_parse_70, e_X9_parse_76, e_X9_parse_86, e_X9_parse_90, e_X9_parse_94, e_X9_parse_98, bo.f0, bo2.f0, bo3.f0, bO_some, bF_I, bF_D, bF_C, bC_v, pk_mul, nI_add, Option.toList, List.cons_append, List.nil_append, bI_t ok1, q1, zI_0, if_true, if_false, eq_self, not_true_eq_false, not_false_eq_true, e1, fp]
    rfl
  · obtain ⟨hm, hx, _⟩ := q3 rfl
    subst hm
    obtain ⟨hm30, hGR⟩ := hok.2 rfl
    have hv : VK m2 (xC m2 f2) := by
      rw [hx]
      exact fun i hi => (hGR i hi).1
    have q5 := w_isInRange (sc := sc) (h := h3) (p := 1) (pr := 3) (m := m2) (f := f2) ⟨⟨_, _, _, _, c1⟩, c3⟩ hv
    rw [hx] at q5
    obtain ⟨fs, s1, s2⟩ := g3'
    cases hb : irB rX m2
    · have hcd : cdPa (true, rpos, m2, rX) sn = 1 := by
        unfold cdPa
        simp only [hb, if_true, reduceCtorEq, if_false]
      rw [hcd]
      rw [hb] at q5
      have gC : CI h3 0 c L sn SX n X ch H ini K V := ⟨⟨rpos, num2, m2, f2, c1, c2, c3⟩, g2', ⟨fs, s1, s2⟩, g4', g5', g6', g7'⟩
      refine ⟨(h3.1, h3.2 + 1), 1, ?_, (fun _ => rfl), (fun z => by cases z), (fun z => by cases z.2), fun _ => gC.exc, 1, by omega, lks.trans (LK.exc _ h3)⟩
      simp only [c0_X9_parse, e_X9_parse_0, e_X9_parse_4, e_X9_parse_7, e_X9_parse_12, e_X9_parse_16, e_X9_parse_20, e_X9_parse_26, e_X9_parse_29, e_X9_parse_31, e_X9_parse_35, e_X9_parse_38, e_X9_parse_43, e_X9_parse_46, e_X9_parse_49, e_X9_parse_59, e_X9_parse_63, e_X9_parse_66, e_X9_parse_70, e_X9_parse_76, e_X9_parse_86, e_X9_parse_90, e_X9_parse_94, e_X9_parse_98, bo.f0, bo2.f0, bo3.f0, bO_some, bF_I, bF_D, bF_C, bC_v, pk_mul, nI_add, Option.toList, List.cons_append, List.nil_append, bI_t ok1, bI_t ok3, q1, zI_0, if_true, if_false, eq_self, not_true_eq_false, not_false_eq_true, reduceCtorEq, e1, f4, q5]
    · rw [hb] at q5
      by_cases h30 : sn + m2 ≤ 30
      · have hcd : cdPa (true, rpos, m2, rX) sn = 0 := by
          unfold cdPa
          simp only [hb, if_true, h30]
        rw [hcd]
        have hle : nI (sn + m2) ≤ nI 30 := nI_le h30 (by omega)
        obtain ⟨fa, t1, t2⟩ := c_X6_appendAll (sc := sc) s1 c3 hv (by omega) (show (sn + m2) * 5 ≤ 150 by omega)
        have fr4 := s1.fr (m := sn + m2) (f' := fa)
        have lk4 := LK.of fr4
        have s3 := s1.to (f' := fa) (show (sn + m2) * 5 ≤ 150 by omega)
        have c3' := c3.lk lk4 (show ¬ (3 = 7 ∨ 3 = 7 + 1) by omega) (show ¬ (3 + 1 = 7 ∨ 3 + 1 = 7 + 1) by omega)
        have c1' := (lk4.2.2.1 1 (show ¬ (1 = 7 ∨ 1 = 7 + 1) by omega)).trans c1
        have c2' := (lk4.2.2.1 2 (show ¬ (2 = 7 ∨ 2 = 7 + 1) by omega)).trans c2
        rw [hx, s2] at t2
        refine ⟨pset h3 7 150 (sn + m2) fa, 0, ?_, (fun z => by cases z), (fun z => by cases z), fun _ => ⟨⟨rpos, num2, m2, f2, c1', c2', c3'⟩, g2'.lk lk4 (fun p hp => by first | omega | (dsimp only; omega)), ⟨fa, s3, t2⟩, g4'.lk lk4 (fun p _ _ => by first | omega | (dsimp only; omega)), g5'.lk lk4 (by first | omega | (dsimp only; omega)), g6'.lk lk4 (by first | omega | (dsimp only; omega)) (fun p _ _ => by first | omega | (dsimp only; omega)), g7'.lk lk4 (fun p _ _ => by first | omega | (dsimp only; omega))⟩, (fun z => absurd ⟨rfl, rfl⟩ z), 0, by omega, lks.trans (lk4.mono (fun p z => by unfold SCl; first | omega | (dsimp only at z; omega)))⟩
        simp only [c0_X9_parse, e_X9_parse_0, e_X9_parse_4, e_X9_parse_7, e_X9_parse_12, e_X9_parse_16, e_X9_parse_20, e_X9_parse_26, e_X9_parse_29, e_X9_parse_31, e_X9_parse_35, e_X9_parse_38, e_X9_parse_43, e_X9_parse_46, e_X9_parse_49, e_X9_parse_59, e_X9_parse_63, e_X9_parse_66, e_X9_parse_70, e_X9_parse_76, e_X9_parse_86, e_X9_parse_90, e_X9_parse_94, e_X9_parse_98, bo.f0, bo2.f0, bo3.f0, bo3.f2, bO_some, bF_I, bF_D, bF_C, bC_v, pk_mul, nI_add, Option.toList, List.cons_append, List.nil_append, bI_t ok1, bI_t ok3, q1, zI_0, if_true, if_false, eq_self, not_true_eq_false, not_false_eq_true, reduceCtorEq, e1, f4, q5, s1.f1, c3.f1, hle, bI_t s1.ok, t1, c3'.f1]
        rfl
      · have hcd : cdPa (true, rpos, m2, rX) sn = 2 := by
          unfold cdPa
          simp only [hb, if_true, h30, if_false]
        rw [hcd]
        have hle : ¬ nI (sn + m2) ≤ nI 30 := nI_ge (by omega) (by omega)
        have gC : CI h3 0 c L sn SX n X ch H ini K V := ⟨⟨rpos, num2, m2, f2, c1, c2, c3⟩, g2', ⟨fs, s1, s2⟩, g4', g5', g6', g7'⟩
        refine ⟨(h3.1, h3.2 + 1), 0, ?_, (fun z => by cases z), (fun _ => rfl), (fun z => by cases z.2), fun _ => gC.exc, 1, by omega, lks.trans (LK.exc _ h3)⟩
        simp only [c0_X9_parse, e_X9_parse_0, e_X9_parse_4, e_X9_parse_7, e_X9_parse_12, e_X9_parse_16, e_X9_parse_20, e_X9_parse_26, e_X9_parse_29, e_X9_parse_31, e_X9_parse_35, e_X9_parse_38, e_X9_parse_43, e_X9_parse_46, e_X9_parse_49, e_X9_parse_59, e_X9_parse_63, e_X9_parse_66, e_X9_parse_70, e_X9_parse_76, e_X9_parse_86, e_X9_parse_90, e_X9_parse_94, e_X9_parse_98, bo.f0, bo2.f0, bo3.f0, bo3.f2, bO_some, bF_I, bF_D, bF_C, bC_v, pk_mul, nI_add, Option.toList, List.cons_append, List.nil_append, bI_t ok1, bI_t ok3, q1, zI_0, if_true, if_false, eq_self, not_true_eq_false, not_false_eq_true, reduceCtorEq, e1, f4, q5, s1.f1, c3.f1, hle]
theorem k_clear (g : CI h len c L sn SX n X ch H ini K V) : ∃ h1, Call sc n_X9_clear [aD 0] h = some (.inl (some (aI (nI sn))), h1) ∧ CI h1 len c L 0 (xC 0 (fun _ => 0)) n X ch H ini K V ∧ LK SCl 0 h h1 := by
  obtain ⟨g1, g2, ⟨f, s1, s2⟩, g4, g5, g6, g7⟩ := g
  have g60 := g6
  obtain ⟨km, ks, bo, _⟩ := g6
  have lk := LK.of (s1.fr (m := 0) (f' := f))
  refine ⟨pset h 7 150 0 f, ?_, ⟨g1.lk lk (fun p _ _ => by first | omega | (dsimp only; omega)), g2.lk lk (fun p hp => by first | omega | (dsimp only; omega)), ⟨f, s1.to (by omega), ?_⟩, g4.lk lk (fun p _ _ => by first | omega | (dsimp only; omega)), g5.lk lk (by first | omega | (dsimp only; omega)), g60.lk lk (by first | omega | (dsimp only; omega)) (fun p _ _ => by first | omega | (dsimp only; omega)), g7.lk lk (fun p _ _ => by first | omega | (dsimp only; omega))⟩, lk.mono (fun p z => by unfold SCl; first | omega | (dsimp only at z; omega))⟩
  · simp only [c0_X9_clear, e_X9_clear_0, e_X9_clear_4, e_X9_clear_7, e_X9_clear_12, e_X9_clear_16, bo.f2, bO_some, bF_I, bF_D, bF_C, bC_v, pk_mul, nI_add, Option.toList, List.cons_append, List.nil_append, s1.f1, s1.pf]
  · funext i w
    unfold xC nm
    rw [if_neg (by omega), if_neg (by omega)]
theorem k_instructions (g : CI h len c L sn SX n X ch H ini K V) : Call sc n_X9_instructions [aD 0] h = some (.inl (some (aI (nI sn))), h) := by
  obtain ⟨g1, g2, ⟨f, s1, s2⟩, g4, g5, ⟨km, ks, bo, _⟩, g7⟩ := g
  simp only [c0_X9_instructions, e_X9_instructions_0, e_X9_instructions_4, e_X9_instructions_7, bo.f2, bO_some, bF_I, bF_D, bF_C, bC_v, pk_mul, nI_add, Option.toList, List.cons_append, List.nil_append, s1.f1]
theorem has_IR {n : Nat} {x : Int32} (h1 : IR n x) : decide (¬ x < 0 ∧ ¬ nI n ≤ x) = true := decide_eq_true h1
theorem has_nIR {n : Nat} {x : Int32} (h1 : ¬ IR n x) : decide (¬ x < 0 ∧ ¬ nI n ≤ x) = false := decide_eq_false h1
theorem IR_3 (y : Int32) : IR 4 y ↔ ¬ y < 0 ∧ y ≤ nI 3 := by
  have a3 : (nI 3).toInt = 3 := by decide
  have a4 : (nI 4).toInt = 4 := by decide
  unfold IR
  rw [Int32.le_iff_toInt_le, Int32.le_iff_toInt_le, a3, a4]
  constructor
  · rintro ⟨z1, z2⟩
    exact ⟨z1, by omega⟩
  · rintro ⟨z1, z2⟩
    exact ⟨z1, by omega⟩
theorem k_instruction (g : CI h len c L sn SX n X ch H ini K V) (hsn : sn ≤ 30) (x y : Int32) : ∃ E, Call sc n_X9_instruction [aD 0, aI x, aI y] h = (if cdIn sn x y = 0 then some (.inl (some (aI (anIn SX x y))), h) else some (.inr E, (h.1, h.2 + 1))) ∧ (cdIn sn x y = 1 → E = 2) ∧ (cdIn sn x y = 2 → E = 1) := by
  obtain ⟨g1, g2, ⟨f, s1, s2⟩, g4, g5, ⟨km, ks, bo, _⟩, g7⟩ := g
  have e1 := c_X6_has (sc := sc) s1 x
  unfold cdIn anIn
  by_cases h1 : IR sn x
  · rw [has_IR h1] at e1
    rw [if_pos h1]
    by_cases h2 : IR 4 y
    · rw [if_pos h2]
      obtain ⟨z1, z2⟩ := (IR_3 y).mp h2
      obtain ⟨i, hi, rfl⟩ := has_ex (by omega) h1
      obtain ⟨w, hw, rfl⟩ := has_ex (by omega) h2
      refine ⟨0, ?_, (fun z => by cases z), (fun z => by cases z)⟩
      simp only [c0_X9_instruction, e_X9_instruction_0, e_X9_instruction_4, e_X9_instruction_8, e_X9_instruction_11, e_X9_instruction_21, e_X9_instruction_25, e_X9_instruction_30, e_X9_instruction_40, e_X9_instruction_44, e_X9_instruction_49, bo.f2, bO_some, bF_I, bF_D, bF_C, bC_v, pk_mul, nI_add, Option.toList, List.cons_append, List.nil_append, bI_t s1.ok, e1, zI_0, if_true, if_false, eq_self, not_true_eq_false, not_false_eq_true, reduceCtorEq, z1, z2, c_X6_part s1 hi (show w < 5 by omega), s2, nI_clamp (show i < 2 ^ 31 by omega), nI_clamp (show w < 2 ^ 31 by omega)]
    · rw [if_neg h2]
      refine ⟨1, ?_, (fun z => by cases z), (fun _ => rfl)⟩
      by_cases z1 : y < 0
      · simp only [c0_X9_instruction, e_X9_instruction_0, e_X9_instruction_4, e_X9_instruction_8, e_X9_instruction_11, e_X9_instruction_21, e_X9_instruction_25, e_X9_instruction_30, e_X9_instruction_40, e_X9_instruction_44, e_X9_instruction_49, bo.f2, bO_some, bF_I, bF_D, bF_C, bC_v, pk_mul, nI_add, Option.toList, List.cons_append, List.nil_append, bI_t s1.ok, e1, zI_0, if_true, if_false, eq_self, not_true_eq_false, not_false_eq_true, reduceCtorEq, z1]
      · have z2 : ¬ y ≤ nI 3 := fun z => h2 ((IR_3 y).mpr ⟨z1, z⟩)
        simp only [c0_X9_instruction, e_X9_instruction_0, e_X9_instruction_4, e_X9_instruction_8, e_X9_instruction_11, e_X9_instruction_21, e_X9_instruction_25, e_X9_instruction_30, e_X9_instruction_40, e_X9_instruction_44, e_X9_instruction_49, bo.f2, bO_some, bF_I, bF_D, bF_C, bC_v, pk_mul, nI_add, Option.toList, List.cons_append, List.nil_append, bI_t s1.ok, e1, zI_0, if_true, if_false, eq_self, not_true_eq_false, not_false_eq_true, reduceCtorEq, z1, z2]
  · rw [has_nIR h1] at e1
    rw [if_neg h1]
    refine ⟨2, ?_, (fun _ => rfl), (fun z => by cases z)⟩
    simp only [c0_X9_instruction, e_X9_instruction_0, e_X9_instruction_4, e_X9_instruction_8, e_X9_instruction_11, e_X9_instruction_21, e_X9_instruction_25, e_X9_instruction_30, e_X9_instruction_40, e_X9_instruction_44, e_X9_instruction_49, bo.f2, bO_some, bF_I, bF_D, bF_C, bC_v, pk_mul, nI_add, Option.toList, List.cons_append, List.nil_append, bI_t s1.ok, e1, zI_0, if_true, if_false, eq_self, not_true_eq_false, not_false_eq_true, reduceCtorEq]
end
