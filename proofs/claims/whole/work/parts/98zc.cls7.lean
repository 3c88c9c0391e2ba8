/-! PURE 76: the class's calls: executions -/
section
variable {sc : SC} {h h' h'' : AH} {S : Nat → Prop} {e e' km ks len sn n ch : Nat} {c ini : Nat → Int32} {X SX : Nat → Nat → Int32} {H : HTy} {L : List Int32} {K : KTy} {V : VTy} {kp sv : Bool}
theorem BO.p9 (bo : BO h km ks kp sv) (z : Nat) : ∃ h', putF h 0 11 9 3 (aD z) = some h' ∧ BO h' z ks kp sv ∧ Fr (fun p => p = 0) h h' := by
  rw [putF_D bo (show 9 < 17 by decide) rfl]
  exact ⟨_, rfl, hget_set bo, fr_set bo rfl⟩
theorem BO.p10 (bo : BO h km ks kp sv) (z : Nat) : ∃ h', putF h 0 11 10 3 (aD z) = some h' ∧ BO h' km z kp sv ∧ Fr (fun p => p = 0) h h' := by
  rw [putF_D bo (show 10 < 17 by decide) rfl]
  exact ⟨_, rfl, hget_set bo, fr_set bo rfl⟩
theorem BO.p12 (bo : BO h km ks kp sv) : ∃ h', putF h 0 11 12 1 (aI (nI 1)) = some h' ∧ BO h' km ks true sv ∧ Fr (fun p => p = 0) h h' := by
  rw [putF_D bo (show 12 < 17 by decide) rfl]
  exact ⟨_, rfl, hget_set bo, fr_set bo rfl⟩
theorem BO.p16 (bo : BO h km ks kp sv) : ∃ h', putF h 0 11 16 1 (aI (nI 1)) = some h' ∧ BO h' km ks kp true ∧ Fr (fun p => p = 0) h h' := by
  rw [putF_D bo (show 16 < 17 by decide) rfl]
  exact ⟨_, rfl, hget_set bo, fr_set bo rfl⟩
theorem CI.to6 {K' : KTy} (g : CI h len c L sn SX n X ch H ini K V) (hf : LK S e h h') (hs : ∀ p, (0 < p ∧ p < 36) ∨ 45 < p → ¬ S p) (g6 : C6 h' K' V.isSome) : CI h' len c L sn SX n X ch H ini K' V :=
  ⟨g.1.lk hf (fun p _ _ => hs p (by omega)), g.2.1.lk hf (fun p hp => hs p (by omega)), g.2.2.1.lk hf (fun p _ _ => hs p (by omega)), g.2.2.2.1.lk hf (fun p _ _ => hs p (by omega)), g.2.2.2.2.1.lk hf (hs 35 (by omega)), g6, g.2.2.2.2.2.2.lk hf (fun p _ _ => hs p (by omega))⟩
/-- an execution of the machine at p from the values at p3 -/
theorem w_exec {p q p3 N No m0 st0 a L0 : Nat} {v o f f3 f4 : Nat → Int32} {Y : Nat → Nat → Int32} {hs : Bool} (g : MA h p v No o m0 st0) (gp : PG h q N a f) (hx : xC a f = Y) (g3 : hget h p3 = some (oI 0 24 f3)) (hpq : p + 2 < q ∨ q + 1 < p) (hp3 : p3 < p ∨ p + 2 < p3) (hv : VK a Y ∧ VG a Y ∧ VT a Y) (hf : VF a Y ∨ (hs = false ∧ ∀ k, k < a → kBr (kx Y k) = true → ltX Y k ≤ a)) (hL : L0 ≤ No) (h4 : ∀ j, j < 24 → f3 j = f4 j) : ∃ h' v' o', Call sc n_X5_executes [aD p, aD q, aI (zI hs), aD p3, aI (nI L0)] h = some (.inl (some (aI (zI (decide (a ≤ (runX Y a hs f4 L0).1))))), h') ∧ MA h' p v' No o' (runX Y a hs f4 L0).2.2.2.2.1 (runX Y a hs f4 L0).2.2.2.2.2 ∧ (∀ j, j < 24 → v' j = (runX Y a hs f4 L0).2.2.1 j) ∧ (∀ j, j < (runX Y a hs f4 L0).2.2.2.2.1 → o' j = (runX Y a hs f4 L0).2.2.2.1 j) ∧ Fr (fun x => p ≤ x ∧ x ≤ p + 2) h h' ∧ (runX Y a hs f4 L0).2.2.2.2.1 ≤ L0 := by
  obtain ⟨h', v', o', q1, q2, q3, q4, q5⟩ := c_X5_executes (sc := sc) (hs := hs) (L := L0) g gp g3 hpq hp3 (by rw [hx]; exact hv.1) (by rw [hx]; exact hv.2.1) (by rw [hx]; exact hv.2.2) (by rw [hx]; exact hf) hL
  rw [hx] at q1 q2 q3 q4
  obtain ⟨a1, a2, a3, a4, a5, a6⟩ := run_ag (L := L0) (hs := hs) hv.2.1 h4
  have hbd := cs_bd (X := Y) (n := a) (hs := hs) L0 (0, none, f4, fun _ => 0, 0, 0) (Nat.le_refl 0)
  have h2 : (runX Y a hs f4 L0).2.2.2.2.1 ≤ (runX Y a hs f4 L0).2.2.2.2.2 := hbd.1
  have h3 : (runX Y a hs f4 L0).2.2.2.2.2 ≤ 0 + L0 := hbd.2.1
  rw [a1] at q1
  rw [a5, a6] at q2
  refine ⟨h', v', o', q1, q2, fun j hj => (q3 j hj).trans (a3 j hj), fun j hj => ?_, q5.mono (fun p z => by first | omega | (dsimp only at z; omega)), by omega⟩
  rw [← a5] at hj
  exact (q4 j hj).trans (a4 j hj)
theorem k_runs (g : CI h len c L sn SX n X ch H ini K V) (hs : Bool) {q N a : Nat} {f : Nat → Int32} {Y : Nat → Nat → Int32} (gp : PG h q N a f) (hx : xC a f = Y) (hq : q = 7 ∨ q = 9) (hqs : q = if hs = true then 9 else 7) (hv : VK a Y ∧ VG a Y ∧ VT a Y) (hf : VF a Y ∨ (hs = false ∧ ∀ k, k < a → kBr (kx Y k) = true → ltX Y k ≤ a)) (x : Int32) : ∃ E h1, Call sc n_X9_run [aD 0, aI (zI hs), aI x] h = (if cdRu a x (runX Y a hs ini x.toNatClampNeg) = 0 then some (.inl (some (aI (nI (runX Y a hs ini x.toNatClampNeg).2.2.2.2.2))), h1) else some (.inr E, h1)) ∧ (cdRu a x (runX Y a hs ini x.toNatClampNeg) = 1 → E = 1) ∧ (cdRu a x (runX Y a hs ini x.toNatClampNeg) = 2 → E = 4) ∧ (cdRu a x (runX Y a hs ini x.toNatClampNeg) = 0 → CI h1 len c L sn SX n X ch H ini (some ((runX Y a hs ini x.toNatClampNeg).2.2.1, (runX Y a hs ini x.toNatClampNeg).2.2.2.1, (runX Y a hs ini x.toNatClampNeg).2.2.2.2.1)) V ∧ (runX Y a hs ini x.toNatClampNeg).2.2.2.2.1 ≤ 2000) ∧ (¬ cdRu a x (runX Y a hs ini x.toNatClampNeg) = 0 → CI h1 len c L sn SX n X ch H ini K V) ∧ ∃ e, e ≤ 1 ∧ LK SCl e h h1 := by
  have g0 := g
  obtain ⟨_, _, _, _, ⟨f3, s1, s2⟩, ⟨km, ks, bo, hkm, ck1, ⟨v, o, m0, st0, c1, _⟩, c5, c6⟩, _⟩ := g
  unfold cdRu
  by_cases h1 : I1 2000 x
  · rw [if_pos h1]
    have z2 : x ≤ nI 2000 := Int32.not_lt.mp h1.2
    have z1 := h1.1
    obtain ⟨L0, hL1, hL, rfl⟩ := has_ex1 (by omega) h1
    rw [nI_clamp (show L0 < 2 ^ 31 by omega)]
    obtain ⟨h2, v', o', q1, q2, q3, q4, q5, q6⟩ := w_exec (sc := sc) (hs := hs) (L0 := L0) c1 gp hx s1 (by omega) (by omega) hv hf hL s2
    generalize runX Y a hs ini L0 = R at *
    have ok1 : rOK sc h (aD ks) 7 = true := c1.ok
    have lk2 := LK.of q5
    have bo2 := bo.lk lk2 (by first | omega | (dsimp only; omega))
    by_cases hen : a ≤ R.1
    · rw [if_pos hen]
      rw [decide_eq_true hen] at q1
      obtain ⟨h3, t1, t2, t3⟩ := bo2.p9 ks
      obtain ⟨h4, t4, t5, t6⟩ := t2.p10 km
      obtain ⟨h5, t7, t8, t9⟩ := t5.p12
      have lk5 := LK.of ((t3.trans t6).trans t9)
      have c1' := q2.lk lk5 (by first | omega | (dsimp only; omega)) (by first | omega | (dsimp only; omega)) (by first | omega | (dsimp only; omega))
      have lk : LK (fun p => p = 0 ∨ (ks ≤ p ∧ p ≤ ks + 2)) 0 h h5 := (lk2.mono (fun p z => Or.inr z)).trans (lk5.mono (fun p z => Or.inl z))
      obtain ⟨v9, o9, m9, st9, g9⟩ := c5
      have hc6 : C6 h5 (some (R.2.2.1, R.2.2.2.1, R.2.2.2.2.1)) V.isSome := by
        refine ⟨ks, km, t8, by omega, ⟨v', o', _, _, c1', ?_⟩, ?_, ⟨v9, o9, m9, st9, g9.lk lk (by first | omega | (dsimp only; omega)) (by first | omega | (dsimp only; omega)) (by first | omega | (dsimp only; omega))⟩, c6.choose, (lk.2.2.1 36 (by first | omega | (dsimp only; omega))).trans c6.choose_spec⟩
        · intro k hk
          have := Option.some.inj hk
          subst this
          exact ⟨q3, rfl, q4⟩
        · obtain ⟨vk, ok, mk, sk, d1, _⟩ := ck1
          exact ⟨vk, ok, mk, sk, d1.lk lk (by first | omega | (dsimp only; omega)) (by first | omega | (dsimp only; omega)) (by first | omega | (dsimp only; omega)), fun k hk => by cases hk⟩
      refine ⟨0, h5, ?_, (fun z => by cases z), (fun z => by cases z), fun _ => ⟨g0.to6 lk (fun p hp => by first | omega | (dsimp only; omega)) hc6, by omega⟩, fun z => absurd rfl z, 0, by omega, lk.mono (fun p z => by unfold SCl; first | omega | (dsimp only at z; omega))⟩
      cases hs
      · have hq8 : q = 7 := hqs
        subst hq8
        simp only [c0_X9_run, e_X9_run_0, e_X9_run_5, e_X9_run_12, e_X9_run_22, e_X9_run_26, e_X9_run_30, e_X9_run_34, e_X9_run_37, e_X9_run_41, e_X9_run_46, e_X9_run_50, e_X9_run_53, e_X9_run_63, e_X9_run_67, e_X9_run_73, e_X9_run_76, e_X9_run_81, e_X9_run_86, e_X9_run_90, e_X9_run_93, bO_some, bF_I, bF_D, bF_C, bC_v, pk_mul, nI_add, Option.toList, List.cons_append, List.nil_append, z1, z2, bo.f10, bo.f2, bo.f7, bI_t ok1, q1, bo2.f9, bo2.f10, t1, t4, t7, t8.f9, c1'.f3, zI_0, if_true, if_false, eq_self, not_true_eq_false, not_false_eq_true, reduceCtorEq]
      · have hq8 : q = 9 := hqs
        subst hq8
        simp only [c0_X9_run, e_X9_run_0, e_X9_run_5, e_X9_run_12, e_X9_run_22, e_X9_run_26, e_X9_run_30, e_X9_run_34, e_X9_run_37, e_X9_run_41, e_X9_run_46, e_X9_run_50, e_X9_run_53, e_X9_run_63, e_X9_run_67, e_X9_run_73, e_X9_run_76, e_X9_run_81, e_X9_run_86, e_X9_run_90, e_X9_run_93, bO_some, bF_I, bF_D, bF_C, bC_v, pk_mul, nI_add, Option.toList, List.cons_append, List.nil_append, z1, z2, bo.f10, bo.f3, bo.f7, bI_t ok1, q1, bo2.f9, bo2.f10, t1, t4, t7, t8.f9, c1'.f3, zI_0, if_true, if_false, eq_self, not_true_eq_false, not_false_eq_true, reduceCtorEq]
    · rw [if_neg hen]
      rw [decide_eq_false hen] at q1
      obtain ⟨v9, o9, m9, st9, g9⟩ := c5
      have hc6 : C6 h2 K V.isSome := by
        refine ⟨km, ks, bo2, hkm, ck1.lk lk2 (fun p _ _ => by first | omega | (dsimp only; omega)), ⟨v', o', _, _, q2, fun k hk => by cases hk⟩, ⟨v9, o9, m9, st9, g9.lk lk2 (by first | omega | (dsimp only; omega)) (by first | omega | (dsimp only; omega)) (by first | omega | (dsimp only; omega))⟩, c6.choose, (lk2.2.2.1 36 (by first | omega | (dsimp only; omega))).trans c6.choose_spec⟩
      refine ⟨4, (h2.1, h2.2 + 1), ?_, (fun z => by cases z), (fun _ => rfl), (fun z => by cases z), fun _ => (g0.to6 lk2 (fun p hp => by first | omega | (dsimp only; omega)) hc6).exc, 1, by omega, (lk2.mono (fun p z => by unfold SCl; first | omega | (dsimp only at z; omega))).trans (LK.exc SCl _)⟩
      cases hs
      · have hq8 : q = 7 := hqs
        subst hq8
        simp only [c0_X9_run, e_X9_run_0, e_X9_run_5, e_X9_run_12, e_X9_run_22, e_X9_run_26, e_X9_run_30, e_X9_run_34, e_X9_run_37, e_X9_run_41, e_X9_run_46, e_X9_run_50, e_X9_run_53, e_X9_run_63, e_X9_run_67, e_X9_run_73, e_X9_run_76, e_X9_run_81, e_X9_run_86, e_X9_run_90, e_X9_run_93, bO_some, bF_I, bF_D, bF_C, bC_v, pk_mul, nI_add, Option.toList, List.cons_append, List.nil_append, z1, z2, bo.f10, bo.f2, bo.f7, bI_t ok1, q1, zI_0, if_true, if_false, eq_self, not_true_eq_false, not_false_eq_true, reduceCtorEq]
      · have hq8 : q = 9 := hqs
        subst hq8
        simp only [c0_X9_run, e_X9_run_0, e_X9_run_5, e_X9_run_12, e_X9_run_22, e_X9_run_26, e_X9_run_30, e_X9_run_34, e_X9_run_37, e_X9_run_41, e_X9_run_46, e_X9_run_50, e_X9_run_53, e_X9_run_63, e_X9_run_67, e_X9_run_73, e_X9_run_76, e_X9_run_81, e_X9_run_86, e_X9_run_90, e_X9_run_93, bO_some, bF_I, bF_D, bF_C, bC_v, pk_mul, nI_add, Option.toList, List.cons_append, List.nil_append, z1, z2, bo.f10, bo.f3, bo.f7, bI_t ok1, q1, zI_0, if_true, if_false, eq_self, not_true_eq_false, not_false_eq_true, reduceCtorEq]
  · rw [if_neg h1]
    refine ⟨1, (h.1, h.2 + 1), ?_, (fun _ => rfl), (fun z => by cases z), (fun z => by cases z), fun _ => g0.exc, 1, by omega, LK.exc SCl h⟩
    by_cases z1 : x < nI 1
    · simp only [c0_X9_run, e_X9_run_0, e_X9_run_5, e_X9_run_12, e_X9_run_22, e_X9_run_26, e_X9_run_30, e_X9_run_34, e_X9_run_37, e_X9_run_41, e_X9_run_46, e_X9_run_50, e_X9_run_53, e_X9_run_63, e_X9_run_67, e_X9_run_73, e_X9_run_76, e_X9_run_81, e_X9_run_86, e_X9_run_90, e_X9_run_93, bO_some, bF_I, bF_D, bF_C, bC_v, pk_mul, nI_add, Option.toList, List.cons_append, List.nil_append, z1, zI_0, if_true, if_false, eq_self, not_true_eq_false, not_false_eq_true, reduceCtorEq]
    · have z2 : ¬ x ≤ nI 2000 := fun z => h1 ⟨z1, Int32.not_lt.mpr z⟩
      simp only [c0_X9_run, e_X9_run_0, e_X9_run_5, e_X9_run_12, e_X9_run_22, e_X9_run_26, e_X9_run_30, e_X9_run_34, e_X9_run_37, e_X9_run_41, e_X9_run_46, e_X9_run_50, e_X9_run_53, e_X9_run_63, e_X9_run_67, e_X9_run_73, e_X9_run_76, e_X9_run_81, e_X9_run_86, e_X9_run_90, e_X9_run_93, bO_some, bF_I, bF_D, bF_C, bC_v, pk_mul, nI_add, Option.toList, List.cons_append, List.nil_append, z1, z2, zI_0, if_true, if_false, eq_self, not_true_eq_false, not_false_eq_true, reduceCtorEq]
theorem w_checkDrawn (x : Int32) : Call sc n_X9_checkDrawn [aI x] h = if I1 50 x then some (.inl none, h) else some (.inr 1, (h.1, h.2 + 1)) := by
  by_cases h1 : I1 50 x
  · rw [if_pos h1]
    have z2 : x ≤ nI 50 := Int32.not_lt.mp h1.2
    have z1 := h1.1
    simp only [c0_X9_checkDrawn, e_X9_checkDrawn_0, e_X9_checkDrawn_5, e_X9_checkDrawn_11, e_X9_checkDrawn_22, bO_some, bF_I, bF_D, bF_C, bC_v, pk_mul, nI_add, Option.toList, List.cons_append, List.nil_append, z1, z2, zI_0, if_true, if_false, eq_self, not_true_eq_false, not_false_eq_true, reduceCtorEq]
  · rw [if_neg h1]
    by_cases z1 : x < nI 1
    · simp only [c0_X9_checkDrawn, e_X9_checkDrawn_0, e_X9_checkDrawn_5, e_X9_checkDrawn_11, e_X9_checkDrawn_22, bO_some, bF_I, bF_D, bF_C, bC_v, pk_mul, nI_add, Option.toList, List.cons_append, List.nil_append, z1, zI_0, if_true, if_false, eq_self, not_true_eq_false, not_false_eq_true, reduceCtorEq]
    · have z2 : ¬ x ≤ nI 50 := fun z => h1 ⟨z1, Int32.not_lt.mpr z⟩
      simp only [c0_X9_checkDrawn, e_X9_checkDrawn_0, e_X9_checkDrawn_5, e_X9_checkDrawn_11, e_X9_checkDrawn_22, bO_some, bF_I, bF_D, bF_C, bC_v, pk_mul, nI_add, Option.toList, List.cons_append, List.nil_append, z1, z2, zI_0, if_true, if_false, eq_self, not_true_eq_false, not_false_eq_true, reduceCtorEq]
theorem l_drawI {f : Nat → Int32} (bo : BO h km ks kp sv) (g3 : hget h 36 = some (oI 0 24 f)) (s : Int32) : ∀ d i, i + d = 24 → Run sc n_X9_drawInitial 4 [aD 0, aI s, aI (drS s i), aI (nI i)] none [] (hset h 36 (oI 0 24 (drR s f i))) = some (.inl (some (aI (drS s 24))), hset h 36 (oI 0 24 (drR s f 24))) := by
  have hb : ∀ r : Option Res, bI (¬ nI 10 = 0) r = r := fun r => bI_t (by decide) r
  intro d
  induction d with
  | zero =>
    intro i hi
    have : i = 24 := by omega
    subst this
    have g4 : hget (hset h 36 (oI 0 24 (drR s f 24))) 36 = some (oI 0 24 (drR s f 24)) := hget_set g3
    have bo2 := bo.lk (LK.of (fr_set (o := oI 0 24 (drR s f 24)) g3 rfl)) (by first | omega | (dsimp only; omega))
    have hl : lenA sc (hset h 36 (oI 0 24 (drR s f 24))) (aD 36) = some 24 := lenA_D g4
    rw [e_X9_drawInitial_4]
    simp only [e_X9_drawInitial_9, e_X9_drawInitial_10, e_X9_drawInitial_42, bo2.f8, hl, bO_some, bF_I, bF_D, bF_C, bC_v, pk_mul, nI_add, Option.toList, List.cons_append, List.nil_append, nI_le (Nat.le_refl 24) (show 24 < 2 ^ 31 by omega), if_true]
  | succ d ih =>
    intro i hi
    have h1 : ¬ nI 24 ≤ nI i := nI_ge (by omega) (by omega)
    have g4 : hget (hset h 36 (oI 0 24 (drR s f i))) 36 = some (oI 0 24 (drR s f i)) := hget_set g3
    have bo2 := bo.lk (LK.of (fr_set (o := oI 0 24 (drR s f i)) g3 rfl)) (by first | omega | (dsimp only; omega))
    have hl : lenA sc (hset h 36 (oI 0 24 (drR s f i))) (aD 36) = some 24 := lenA_D g4
    have e3 : ∀ y, stI (hset h 36 (oI 0 24 (drR s f i))) (fun t => t == 0) 36 (nI i) y = some (hset h 36 (oI 0 24 (upd (drR s f i) i y))) := fun y => by
      have z := stI_D (T := fun t => t == 0) (x := y) g4 rfl (show i < 24 by omega) (by omega)
      rw [hset_hset] at z
      exact z
    have h2 := ih (i + 1) (by omega)
    rw [← h2, e_X9_drawInitial_4]
    simp only [e_X9_drawInitial_9, e_X9_drawInitial_10, e_X9_drawInitial_13, e_X9_drawInitial_27, e_X9_drawInitial_35, e_X9_drawInitial_36, bo2.f8, hl, bO_some, bF_I, bF_D, bF_C, bC_v, pk_mul, nI_add, Option.toList, List.cons_append, List.nil_append, h1, if_false, hb, e3]
    rfl
theorem w_drawInitial {f : Nat → Int32} (bo : BO h km ks kp sv) (g3 : hget h 36 = some (oI 0 24 f)) (s : Int32) : ∃ h' f', Call sc n_X9_drawInitial [aD 0, aI s] h = some (.inl (some (aI (drS s 24))), h') ∧ hget h' 36 = some (oI 0 24 f') ∧ (∀ j, j < 24 → f' j = drV s j) ∧ Fr (fun p => p = 36) h h' := by
  refine ⟨_, _, ?_, hget_set g3, fun j hj => drR_at s f 24 j hj, fr_set g3 rfl⟩
  have h2 := l_drawI (sc := sc) bo g3 s 24 0 rfl
  rw [show drR s f 0 = f from rfl, hset_self g3] at h2
  rw [c0_X9_drawInitial, e_X9_drawInitial_0]
  exact h2
end
