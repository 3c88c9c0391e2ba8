/-! PURE 78: the class's calls: means, shares, the saved state -/
theorem nI_sb {a b : Nat} (hb : b ≤ a) : nI a - nI b = nI (a - b) := by
  have h1 : nI a = nI (a - b) + nI b := by
    rw [nI_add, Nat.sub_add_cancel hb]
  rw [h1, Int32.add_sub_cancel]
section
variable {sc : SC} {h h' h'' : AH} {S : Nat → Prop} {e e' km ks len sn n ch : Nat} {c ini : Nat → Int32} {X SX : Nat → Nat → Int32} {H : HTy} {L : List Int32} {K : KTy} {V : VTy} {kp sv : Bool}
theorem l_kmean (hn : n ≤ 60) (hw : WF n X) {L0 : Nat} (hL : L0 ≤ 50) (hL0 : 0 < L0) (s : Int32) : ∀ d i, i + d = L0 → ∀ h', CI h' len c L sn SX n X ch H ini K V → LK SCl 0 h h' → ∃ h'', Run sc n_X9_meanSteps 12 [aD 0, aI s, aI (nI L0), aI (nI (smN (fun k => msT n X (sdI s k)) i)), aI (sdI s i), aI (nI i)] none [] h' = some (.inl (some (aE (FP.ddiv (FP.i2d (nI (smN (fun k => msT n X (sdI s k)) L0))) (FP.i2d (nI L0))))), h'') ∧ CI h'' len c L sn SX n X ch H ini K V ∧ LK SCl 0 h h'' := by
  intro d
  induction d with
  | zero =>
    intro i hi h' g lk
    have : i = L0 := by omega
    subst this
    have h3 := sm_le n X s i
    have h4 := ddiv_num (a := smN (fun k => msT n X (sdI s k)) i) (b := i) (by omega) (by omega) hL0
    refine ⟨h', ?_, g, lk⟩
    rw [e_X9_meanSteps_12, if_pos (nI_le (Nat.le_refl _) (by omega)), e_X9_meanSteps_62, bI_t h4, e_X9_meanSteps_67]
  | succ d ih =>
    intro i hi h0 g lk0
    have h1 : ¬ nI L0 ≤ nI i := nI_ge (by omega) (by omega)
    obtain ⟨_, _, _, ⟨_, _, ⟨ff, b1, b2⟩, _⟩, _, ⟨km, ks, bo, hkm, ck1, ck2, ⟨v9, o9, m9, st9, c9⟩, f37, c6⟩, _⟩ := id g
    obtain ⟨h2, f', q1, q2, q3, q4⟩ := w_drawInitial (sc := sc) bo c6 (sdI s i)
    have lk2 := LK.of q4
    obtain ⟨h4, v4, o4, t1, t2, t3, t4, t5, t6⟩ := w_exec (sc := sc) (hs := true) (L0 := 300) (c9.lk lk2 (by first | omega | (dsimp only; omega)) (by first | omega | (dsimp only; omega)) (by first | omega | (dsimp only; omega))) (b1.lk lk2 (by first | omega | (dsimp only; omega)) (by first | omega | (dsimp only; omega))) b2 q2 (by omega) (by omega) ⟨hw.1, VG_of hw, hw.2.1⟩ (Or.inl (VF_of hw.2.1 hw.2.2.1 (by omega))) (Nat.le_refl 300) q3
    have lk4 := LK.of t5
    have lk04 : LK (fun p => p = 36 ∨ (43 ≤ p ∧ p ≤ 45)) 0 h0 h4 := (lk2.mono (fun p z => by first | omega | (dsimp only at z; omega))).trans (lk4.mono (fun p z => by first | omega | (dsimp only at z; omega)))
    have bo2 := bo.lk lk2 (by first | omega | (dsimp only; omega))
    have bo4 := bo.lk lk04 (by first | omega | (dsimp only; omega))
    have hc6 : C6 h4 K V.isSome := ⟨km, ks, bo4, hkm, ck1.lk lk04 (fun p _ _ => by first | omega | (dsimp only; omega)), ck2.lk lk04 (fun p _ _ => by first | omega | (dsimp only; omega)), ⟨v4, o4, _, _, t2⟩, f', (lk4.2.2.1 36 (by first | omega | (dsimp only; omega))).trans q2⟩
    have gN := g.to6 lk04 (fun p hp => by first | omega | (dsimp only; omega)) hc6
    have ok0 := bo.ok (sc := sc)
    have okB : rOK sc h2 (aD 43) 7 = true := rOK_D ((lk2.2.2.1 43 (by first | omega | (dsimp only; omega))).trans c9.1)
    have lkN := lk0.trans (lk04.mono (T := SCl) (fun p z => by unfold SCl; first | omega | (dsimp only at z; omega)))
    obtain ⟨h5, u1, u2, u3⟩ := ih (i + 1) (by omega) h4 gN lkN
    have hms : (runX X n true (drV (sdI s i)) 300).2.2.2.2.2 = msT n X (sdI s i) := rfl
    have hsm : smN (fun k => msT n X (sdI s k)) (i + 1) = smN (fun k => msT n X (sdI s k)) i + msT n X (sdI s i) := rfl
    have t2f := t2.f3 (sc := sc)
    rw [hms] at t2f
    refine ⟨h5, ?_, u2, u3⟩
    rw [← u1, hsm, e_X9_meanSteps_12, if_neg h1]
    simp only [e_X9_meanSteps_18, e_X9_meanSteps_24, e_X9_meanSteps_30, e_X9_meanSteps_34, e_X9_meanSteps_39, e_X9_meanSteps_45, e_X9_meanSteps_51, e_X9_meanSteps_54, bO_some, bF_I, bF_D, bF_C, bC_v, pk_mul, nI_add, Option.toList, List.cons_append, List.nil_append, ok0, q1, bo2.f11, bo2.f3, bo2.f8, bI_t okB, show nI 1 = zI true from rfl, t1, bo4.f11, t2f]
    rw [show nI i + zI true = nI (i + 1) by rw [show zI true = nI 1 from rfl, nI_add]]
    rfl
theorem k_meanSteps (g : CI h len c L sn SX n X ch H ini K V) (hn : n ≤ 60) (hw : WF n X) (s x : Int32) : ∃ h1, Call sc n_X9_meanSteps [aD 0, aI s, aI x] h = (if cd50 x = 0 then some (.inl (some (aE (FP.ddiv (FP.i2d (nI (smN (fun k => msT n X (sdI s k)) x.toNatClampNeg))) (FP.i2d x)))), h1) else some (.inr 1, h1)) ∧ CI h1 len c L sn SX n X ch H ini K V ∧ ∃ e, e ≤ 1 ∧ LK SCl e h h1 := by
  have e1 := w_checkDrawn (sc := sc) (h := h) x
  unfold cd50
  by_cases h1 : I1 50 x
  · rw [if_pos h1] at e1 ⊢
    obtain ⟨L0, hL1, hL, rfl⟩ := has_ex1 (by omega) h1
    obtain ⟨h2, q1, q2, q3⟩ := l_kmean (sc := sc) (h := h) hn hw hL hL1 s L0 0 (by omega) h g LK.rfl
    refine ⟨h2, ?_, q2, 0, by omega, q3⟩
    rw [nI_clamp (show L0 < 2 ^ 31 by omega), if_pos rfl]
    simp only [c0_X9_meanSteps, e_X9_meanSteps_0, e_X9_meanSteps_4, e1, bO_some, bF_I, bF_D, bF_C, bC_v, pk_mul, nI_add, Option.toList, List.cons_append, List.nil_append]
    exact q1
  · rw [if_neg h1] at e1 ⊢
    refine ⟨(h.1, h.2 + 1), ?_, g.exc, 1, by omega, LK.exc SCl h⟩
    simp only [c0_X9_meanSteps, e_X9_meanSteps_0, e1, bO_some, bF_I, bF_D, bF_C, bC_v, pk_mul, nI_add, Option.toList, List.cons_append, List.nil_append, zI_0, if_true, if_false, eq_self, not_true_eq_false, not_false_eq_true, reduceCtorEq]
    rfl
theorem k_filledShare (g : CI h len c L sn SX n X ch H ini K V) (hn : n ≤ 60) (hw : WF n X) : Call sc n_X9_filledShare [aD 0] h = if cdFs n X = 0 then some (.inl (some (aF (FP.fdiv (FP.i2f (nI (cnt n (fun k => kBr (kx X k)) - cnt n (fun k => esX X k)))) (FP.i2f (nI (cnt n (fun k => kBr (kx X k)))))))), h) else some (.inr 3, (h.1, h.2 + 1)) := by
  obtain ⟨km, ks, bo⟩ := g.bo
  obtain ⟨_, _, ⟨f, s1, s2⟩, _⟩ := g.2.2.2.1
  have hw' : WF n (xC n f) := by
    rw [s2]
    exact hw
  have e1 := c_X6_branches (sc := sc) s1 hw'.1
  have e2 := c_X6_emptySlots (sc := sc) s1 hw'.1 hw'.2.2.1
  rw [s2] at e1 e2
  have hle : cnt n (fun k => esX X k) ≤ cnt n (fun k => kBr (kx X k)) := cnt_mono n _ _ (fun i _ hi => by
    unfold esX at hi
    rw [Bool.and_eq_true] at hi
    exact hi.1)
  have hB60 := cnt_le n (fun k => kBr (kx X k))
  unfold cdFs
  generalize cnt n (fun k => kBr (kx X k)) = B at *
  generalize cnt n (fun k => esX X k) = C at *
  by_cases hB : B = 0
  · rw [if_pos hB, if_neg (by decide)]
    have z0 : nI B = 0 := by
      rw [hB]
      rfl
    simp only [c0_X9_filledShare, e_X9_filledShare_0, e_X9_filledShare_4, e_X9_filledShare_7, e_X9_filledShare_12, e_X9_filledShare_23, e_X9_filledShare_28, e_X9_filledShare_31, e_X9_filledShare_36, bO_some, bF_I, bF_D, bF_C, bC_v, pk_mul, nI_add, Option.toList, List.cons_append, List.nil_append, bo.f3, bI_t s1.ok, e1, z0, zI_0, if_true, if_false, eq_self, not_true_eq_false, not_false_eq_true, reduceCtorEq]
  · rw [if_neg hB, if_pos rfl]
    have hne : ¬ nI B = 0 := fun z => hB (nI_inj (b := 0) (by omega) (by omega) z)
    have hd := fdiv_num (B - C) (by omega) B (by omega) (by omega)
    simp only [c0_X9_filledShare, e_X9_filledShare_0, e_X9_filledShare_4, e_X9_filledShare_7, e_X9_filledShare_12, e_X9_filledShare_23, e_X9_filledShare_28, e_X9_filledShare_31, e_X9_filledShare_36, bO_some, bF_I, bF_D, bF_C, bC_v, pk_mul, nI_add, Option.toList, List.cons_append, List.nil_append, bo.f3, bI_t s1.ok, e1, e2, hne, nI_sb hle, bI_t hd, zI_0, if_true, if_false, eq_self, not_true_eq_false, not_false_eq_true, reduceCtorEq]
theorem k_save (g : CI h len c L sn SX n X ch H ini K V) : ∃ h1, Call sc n_X9_save [aD 0] h = some (.inl (some (aI (nI sn))), h1) ∧ CI h1 len c L sn SX n X ch H ini K (some (sn, SX, n, X, ini)) ∧ LK SCl 0 h h1 := by
  obtain ⟨g1, g2, ⟨fs, a1, a2⟩, g4, ⟨fi, s1, s2⟩, ⟨km, ks, bo, hkm, ck1, ck2, ⟨v9, o9, m9, st9, c9⟩, f37, c6⟩, ⟨n1, f1, n2, f2, f3, v1, v2, v3, v4⟩⟩ := g
  obtain ⟨_, _, ⟨ff, b1, b2⟩, _⟩ := id g4
  have q1 := c_X6_copyFrom (sc := sc) v1 a1 (by omega) a1.2.2.1
  have lk1 := LK.of (v1.fr (m := sn) (f' := cpy fs f1 0 0 (sn * 5)))
  have v1' := v1.to (m := sn) (f' := cpy fs f1 0 0 (sn * 5)) a1.2.2.1
  have x1 : xC sn (cpy fs f1 0 0 (sn * 5)) = SX := xC_cpy0.trans a2
  generalize pset h 46 150 sn (cpy fs f1 0 0 (sn * 5)) = h2 at *
  generalize cpy fs f1 0 0 (sn * 5) = f1' at *
  have b1' := b1.lk lk1 (by first | omega | (dsimp only; omega)) (by first | omega | (dsimp only; omega))
  have v2' := v2.lk lk1 (by first | omega | (dsimp only; omega)) (by first | omega | (dsimp only; omega))
  have q2 := c_X6_copyFrom (sc := sc) v2' b1' (by omega) b1.2.2.1
  have lk2 := LK.of (v2'.fr (m := n) (f' := cpy ff f2 0 0 (n * 5)))
  have v2'' := v2'.to (m := n) (f' := cpy ff f2 0 0 (n * 5)) b1.2.2.1
  have x2 : xC n (cpy ff f2 0 0 (n * 5)) = X := xC_cpy0.trans b2
  generalize pset h2 48 300 n (cpy ff f2 0 0 (n * 5)) = h3 at *
  generalize cpy ff f2 0 0 (n * 5) = f2' at *
  have lk12 : LK (fun p => 46 ≤ p ∧ p ≤ 49) 0 h h3 := (lk1.mono (fun p z => by first | omega | (dsimp only at z; omega))).trans (lk2.mono (fun p z => by first | omega | (dsimp only at z; omega)))
  have s1' := (lk12.2.2.1 35 (by first | omega | (dsimp only; omega))).trans s1
  have v3' := (lk12.2.2.1 50 (by first | omega | (dsimp only; omega))).trans v3
  have hc : copyA sc h3 (aD 35) (nI 0) 50 (nI 0) (nI 24) = some (hset h3 50 (oI 0 24 (cpy fi f3 0 0 24))) := by
    unfold copyA oget
    simp only [s1', v3']
    rw [nI_clamp (show 24 < 2 ^ 31 by omega), if_pos ⟨trivial, Or.inr ⟨trivial, trivial⟩, by decide, by decide, by decide, by decide, by decide, rfl⟩]
    rfl
  have hl : lenA sc h3 (aD 35) = some 24 := lenA_D s1'
  have lk3 := LK.of (fr_set (o := oI 0 24 (cpy fi f3 0 0 24)) v3' rfl)
  have v3'' : hget (hset h3 50 (oI 0 24 (cpy fi f3 0 0 24))) 50 = some (oI 0 24 (cpy fi f3 0 0 24)) := hget_set v3'
  generalize hset h3 50 (oI 0 24 (cpy fi f3 0 0 24)) = h4 at *
  have lk13 : LK (fun p => 46 ≤ p ∧ p ≤ 50) 0 h h4 := (lk12.mono (fun p z => by first | omega | (dsimp only at z; omega))).trans (lk3.mono (fun p z => by first | omega | (dsimp only at z; omega)))
  have bo2 := bo.lk lk1 (by first | omega | (dsimp only; omega))
  have bo3 := bo.lk lk12 (by first | omega | (dsimp only; omega))
  have bo4 := bo.lk lk13 (by first | omega | (dsimp only; omega))
  obtain ⟨h5, t1, t2, t3⟩ := bo4.p16
  have lk5 := LK.of t3
  have lk : LK (fun p => p = 0 ∨ (46 ≤ p ∧ p ≤ 50)) 0 h h5 := (lk13.mono (fun p z => by first | omega | (dsimp only at z; omega))).trans (lk5.mono (fun p z => by first | omega | (dsimp only at z; omega)))
  have a1' := a1.lk lk (by first | omega | (dsimp only; omega)) (by first | omega | (dsimp only; omega))
  have lk35 : LK (fun p => p = 0 ∨ p = 50) 0 h3 h5 := (lk3.mono (fun p z => by first | omega | (dsimp only at z; omega))).trans (lk5.mono (fun p z => by first | omega | (dsimp only at z; omega)))
  have lk25 : LK (fun p => p = 0 ∨ (48 ≤ p ∧ p ≤ 50)) 0 h2 h5 := (lk2.mono (fun p z => by first | omega | (dsimp only at z; omega))).trans (lk35.mono (fun p z => by first | omega | (dsimp only at z; omega)))
  refine ⟨h5, ?_, ⟨g1.lk lk (fun p _ _ => by first | omega | (dsimp only; omega)), g2.lk lk (fun p hp => by first | omega | (dsimp only; omega)), ⟨fs, a1', a2⟩, g4.lk lk (fun p _ _ => by first | omega | (dsimp only; omega)), ⟨fi, (lk.2.2.1 35 (by first | omega | (dsimp only; omega))).trans s1, s2⟩, ⟨km, ks, t2, hkm, ck1.lk lk (fun p _ _ => by first | omega | (dsimp only; omega)), ck2.lk lk (fun p _ _ => by first | omega | (dsimp only; omega)), ⟨v9, o9, m9, st9, c9.lk lk (by first | omega | (dsimp only; omega)) (by first | omega | (dsimp only; omega)) (by first | omega | (dsimp only; omega))⟩, f37, (lk.2.2.1 36 (by first | omega | (dsimp only; omega))).trans c6⟩, ⟨sn, f1', n, f2', cpy fi f3 0 0 24, v1'.lk lk25 (by first | omega | (dsimp only; omega)) (by first | omega | (dsimp only; omega)), v2''.lk lk35 (by first | omega | (dsimp only; omega)) (by first | omega | (dsimp only; omega)), (lk5.2.2.1 50 (by first | omega | (dsimp only; omega))).trans v3'', ?_⟩⟩, lk.mono (fun p z => by unfold SCl; first | omega | (dsimp only at z; omega))⟩
  · simp only [c0_X9_save, e_X9_save_0, e_X9_save_4, e_X9_save_8, e_X9_save_11, e_X9_save_15, e_X9_save_19, e_X9_save_22, e_X9_save_26, e_X9_save_31, e_X9_save_36, e_X9_save_37, e_X9_save_40, e_X9_save_45, e_X9_save_49, e_X9_save_52, bO_some, bF_I, bF_D, bF_C, bC_v, pk_mul, nI_add, Option.toList, List.cons_append, List.nil_append, bo.f13, bo.f2, bI_t v1.ok, q1, bo2.f14, bo2.f3, bI_t v2'.ok, q2, bo3.f7, bo3.f15, hl, hc, t1, t2.f2, a1'.f1, zI_0, if_true, if_false, eq_self, not_true_eq_false, not_false_eq_true, reduceCtorEq]
  · intro v hv
    have := Option.some.inj hv
    subst this
    refine ⟨rfl, x1, rfl, x2, fun j hj => ?_⟩
    rw [cpy_eq, if_pos (by omega), show 0 + (j - 0) = j by omega]
    exact s2 j hj
theorem k_restore (g : CI h len c L sn SX n X ch H ini K V) (hV : ∀ v, V = some v → v.1 ≤ 30 ∧ v.2.2.1 ≤ 60) : (V = none ∧ Call sc n_X9_restore [aD 0] h = some (.inr 0, (h.1, h.2 + 1))) ∨ ∃ v h1, V = some v ∧ Call sc n_X9_restore [aD 0] h = some (.inl (some (aI (nI v.1))), h1) ∧ CI h1 len c L v.1 v.2.1 v.2.2.1 v.2.2.2.1 0 H v.2.2.2.2 K V ∧ LK SCl 0 h h1 := by
  obtain ⟨g1, g2, ⟨fs, a1, a2⟩, ⟨d1, ⟨l, r, w, s, d2⟩, ⟨ff, b1, b2⟩, nx, d5, d6, d7, d8⟩, ⟨fi, s1, s2⟩, ⟨km, ks, bo, hkm, ck1, ck2, ⟨v9, o9, m9, st9, c9⟩, f37, c6⟩, ⟨n1, f1, n2, f2, f3, v1, v2, v3, v4⟩⟩ := g
  cases V with
  | none =>
    refine Or.inl ⟨rfl, ?_⟩
    have bo' : BO h km ks K.isSome false := bo
    simp only [c0_X9_restore, e_X9_restore_0, e_X9_restore_4, e_X9_restore_7, e_X9_restore_18, e_X9_restore_22, e_X9_restore_26, e_X9_restore_29, e_X9_restore_33, e_X9_restore_37, e_X9_restore_40, e_X9_restore_44, e_X9_restore_49, e_X9_restore_54, e_X9_restore_55, e_X9_restore_58, e_X9_restore_62, e_X9_restore_66, e_X9_restore_70, e_X9_restore_73, bO_some, bF_I, bF_D, bF_C, bC_v, pk_mul, nI_add, Option.toList, List.cons_append, List.nil_append, bo'.f16, zI_0, if_true, if_false, eq_self, not_true_eq_false, not_false_eq_true, reduceCtorEq]
  | some vv =>
    have bo' : BO h km ks K.isSome true := bo
    obtain ⟨e1, e2, e3, e4, e5⟩ := v4 vv rfl
    obtain ⟨p1, p2⟩ := hV vv rfl
    subst e1
    subst e3
    refine Or.inr ⟨vv, ?_⟩
    have q1 := c_X6_copyFrom (sc := sc) a1 v1 (by omega) v1.2.2.1
    have lk1 := LK.of (a1.fr (m := vv.1) (f' := cpy f1 fs 0 0 (vv.1 * 5)))
    have a1' := a1.to (m := vv.1) (f' := cpy f1 fs 0 0 (vv.1 * 5)) v1.2.2.1
    have x1 : xC vv.1 (cpy f1 fs 0 0 (vv.1 * 5)) = vv.2.1 := xC_cpy0.trans e2
    generalize pset h 7 150 vv.1 (cpy f1 fs 0 0 (vv.1 * 5)) = h2 at *
    generalize cpy f1 fs 0 0 (vv.1 * 5) = f1' at *
    have b1' := b1.lk lk1 (by first | omega | (dsimp only; omega)) (by first | omega | (dsimp only; omega))
    have v2' := v2.lk lk1 (by first | omega | (dsimp only; omega)) (by first | omega | (dsimp only; omega))
    have q2 := c_X6_copyFrom (sc := sc) b1' v2' (by omega) v2.2.2.1
    have lk2 := LK.of (b1'.fr (m := vv.2.2.1) (f' := cpy f2 ff 0 0 (vv.2.2.1 * 5)))
    have b1'' := b1'.to (m := vv.2.2.1) (f' := cpy f2 ff 0 0 (vv.2.2.1 * 5)) v2.2.2.1
    have x2 : xC vv.2.2.1 (cpy f2 ff 0 0 (vv.2.2.1 * 5)) = vv.2.2.2.1 := xC_cpy0.trans e4
    generalize pset h2 9 300 vv.2.2.1 (cpy f2 ff 0 0 (vv.2.2.1 * 5)) = h3 at *
    generalize cpy f2 ff 0 0 (vv.2.2.1 * 5) = f2' at *
    have lk12 : LK (fun p => 7 ≤ p ∧ p ≤ 10) 0 h h3 := (lk1.mono (fun p z => by first | omega | (dsimp only at z; omega))).trans (lk2.mono (fun p z => by first | omega | (dsimp only at z; omega)))
    have s1' := (lk12.2.2.1 35 (by first | omega | (dsimp only; omega))).trans s1
    have v3' := (lk12.2.2.1 50 (by first | omega | (dsimp only; omega))).trans v3
    have hc : copyA sc h3 (aD 50) (nI 0) 35 (nI 0) (nI 24) = some (hset h3 35 (oI 0 24 (cpy f3 fi 0 0 24))) := by
      unfold copyA oget
      simp only [s1', v3']
      rw [nI_clamp (show 24 < 2 ^ 31 by omega), if_pos ⟨trivial, Or.inr ⟨trivial, trivial⟩, by decide, by decide, by decide, by decide, by decide, rfl⟩]
      rfl
    have hl : lenA sc h3 (aD 35) = some 24 := lenA_D s1'
    have lk3 := LK.of (fr_set (o := oI 0 24 (cpy f3 fi 0 0 24)) s1' rfl)
    have s1'' : hget (hset h3 35 (oI 0 24 (cpy f3 fi 0 0 24))) 35 = some (oI 0 24 (cpy f3 fi 0 0 24)) := hget_set s1'
    generalize hset h3 35 (oI 0 24 (cpy f3 fi 0 0 24)) = h4 at *
    have lk13 : LK (fun p => (7 ≤ p ∧ p ≤ 10) ∨ p = 35) 0 h h4 := (lk12.mono (fun p z => by first | omega | (dsimp only at z; omega))).trans (lk3.mono (fun p z => by first | omega | (dsimp only at z; omega)))
    have d5' := d5.lk lk13 (by first | omega | (dsimp only; omega)) (by first | omega | (dsimp only; omega))
    obtain ⟨h5, t1, t2, t3⟩ := d5'.p2 0
    have lk5 := LK.of t3
    have lk : LK (fun p => (7 ≤ p ∧ p ≤ 10) ∨ p = 35 ∨ p = 17) 0 h h5 := (lk13.mono (fun p z => by first | omega | (dsimp only at z; omega))).trans (lk5.mono (fun p z => by first | omega | (dsimp only at z; omega)))
    have bo2 := bo'.lk lk1 (by first | omega | (dsimp only; omega))
    have bo3 := bo'.lk lk12 (by first | omega | (dsimp only; omega))
    have bo4 := bo'.lk lk13 (by first | omega | (dsimp only; omega))
    have bo5 := bo'.lk lk (by first | omega | (dsimp only; omega))
    have lk35 : LK (fun p => p = 35 ∨ p = 17) 0 h3 h5 := (lk3.mono (fun p z => by first | omega | (dsimp only at z; omega))).trans (lk5.mono (fun p z => by first | omega | (dsimp only at z; omega)))
    have lk25 : LK (fun p => (9 ≤ p ∧ p ≤ 10) ∨ p = 35 ∨ p = 17) 0 h2 h5 := (lk2.mono (fun p z => by first | omega | (dsimp only at z; omega))).trans (lk35.mono (fun p z => by first | omega | (dsimp only at z; omega)))
    have a5 := a1'.lk lk25 (by first | omega | (dsimp only; omega)) (by first | omega | (dsimp only; omega))
    refine ⟨h5, rfl, ?_, ⟨g1.lk lk (fun p _ _ => by first | omega | (dsimp only; omega)), g2.lk lk (fun p hp => by first | omega | (dsimp only; omega)), ⟨f1', a5, x1⟩, ⟨(lk.2.2.1 16 (by first | omega | (dsimp only; omega))).trans d1, ⟨l, r, w, s, d2.lk lk (fun p _ _ => by first | omega | (dsimp only; omega))⟩, ⟨f2', b1''.lk lk35 (by first | omega | (dsimp only; omega)) (by first | omega | (dsimp only; omega)), x2⟩, nx, t2, d6, by omega, fun i hi => ?_⟩, ⟨_, (lk5.2.2.1 35 (by first | omega | (dsimp only; omega))).trans s1'', fun j hj => ?_⟩, ⟨km, ks, bo5, hkm, ck1.lk lk (fun p _ _ => by first | omega | (dsimp only; omega)), ck2.lk lk (fun p _ _ => by first | omega | (dsimp only; omega)), ⟨v9, o9, m9, st9, c9.lk lk (by first | omega | (dsimp only; omega)) (by first | omega | (dsimp only; omega)) (by first | omega | (dsimp only; omega))⟩, f37, (lk.2.2.1 36 (by first | omega | (dsimp only; omega))).trans c6⟩, ⟨_, f1, _, f2, f3, v1.lk lk (by first | omega | (dsimp only; omega)) (by first | omega | (dsimp only; omega)), v2.lk lk (by first | omega | (dsimp only; omega)) (by first | omega | (dsimp only; omega)), (lk.2.2.1 50 (by first | omega | (dsimp only; omega))).trans v3, v4⟩⟩, lk.mono (fun p z => by unfold SCl; first | omega | (dsimp only at z; omega))⟩
    · simp only [c0_X9_restore, e_X9_restore_0, e_X9_restore_4, e_X9_restore_7, e_X9_restore_18, e_X9_restore_22, e_X9_restore_26, e_X9_restore_29, e_X9_restore_33, e_X9_restore_37, e_X9_restore_40, e_X9_restore_44, e_X9_restore_49, e_X9_restore_54, e_X9_restore_55, e_X9_restore_58, e_X9_restore_62, e_X9_restore_66, e_X9_restore_70, e_X9_restore_73, bO_some, bF_I, bF_D, bF_C, bC_v, pk_mul, nI_add, Option.toList, List.cons_append, List.nil_append, bo'.f16, bo'.f2, bo'.f13, bI_t a1.ok, q1, bo2.f3, bo2.f14, bI_t b1'.ok, q2, bo3.f15, bo3.f7, hl, hc, bo4.f6, t1, bo5.f2, a5.f1, zI_0, if_true, if_false, eq_self, not_true_eq_false, not_false_eq_true, reduceCtorEq]
    · obtain ⟨ni, fi', z1, z2⟩ := d8 i hi
      exact ⟨ni, fi', z1.lk lk (by first | omega | (dsimp only; omega)) (by first | omega | (dsimp only; omega)), fun k hk => absurd hk (Nat.not_lt_zero k)⟩
    · rw [cpy_eq, if_pos (by omega), show 0 + (j - 0) = j by omega]
      exact e5 j hj
end
