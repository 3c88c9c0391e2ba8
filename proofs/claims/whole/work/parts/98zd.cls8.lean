/-! PURE 77: the class's calls: drawn executions, shares, the saved state -/
theorem ef_ag {v o v' o' A Ao B Bo : Nat → Int32} {m m' : Nat} (hv : ∀ j, j < 24 → v j = A j) (ho : ∀ j, j < m → o j = Ao j) (hv' : ∀ j, j < 24 → v' j = B j) (ho' : ∀ j, j < m' → o' j = Bo j) : efX v o m v' o' m' = efX A Ao m B Bo m' := by
  unfold efX
  rw [alB_ag (P := fun j => decide (v j = v' j)) (Q := fun j => decide (A j = B j)) 16 8 (fun j h1 h2 => by rw [hv j (by omega), hv' j (by omega)])]
  cases hm : Nat.beq m m'
  · rfl
  · have hm2 := Nat.eq_of_beq_eq_true hm
    subst hm2
    rw [alB_ag (P := fun j => decide (o j = o' j)) (Q := fun j => decide (Ao j = Bo j)) m 0 (fun j h1 h2 => by rw [ho j (by omega), ho' j (by omega)])]
theorem lt_of {n : Nat} {X : Nat → Nat → Int32} (hn : n < 2 ^ 31) (ht : VT n X) : ∀ k, k < n → kBr (kx X k) = true → ltX X k ≤ n := by
  intro k hk hb
  obtain ⟨t, h1, h2⟩ := ht k hk hb
  unfold ltX
  rw [h1, nI_clamp (by omega)]
  exact h2
section
variable {sc : SC} {h h' h'' : AH} {S : Nat → Prop} {e e' km ks len sn n ch : Nat} {c ini : Nat → Int32} {X SX : Nat → Nat → Int32} {H : HTy} {L : List Int32} {K : KTy} {V : VTy} {kp sv : Bool}
theorem k_run (g : CI h len c L sn SX n X ch H ini K V) (hsn : sn ≤ 30) (hsg : SG sn SX) (hn : n ≤ 60) (hw : WF n X) (hs : Bool) (x : Int32) : ∃ E h1, Call sc n_X9_run [aD 0, aI (zI hs), aI x] h = (if cdRu (if hs = true then n else sn) x (runX (if hs = true then X else SX) (if hs = true then n else sn) hs ini x.toNatClampNeg) = 0 then some (.inl (some (aI (nI (runX (if hs = true then X else SX) (if hs = true then n else sn) hs ini x.toNatClampNeg).2.2.2.2.2))), h1) else some (.inr E, h1)) ∧ (cdRu (if hs = true then n else sn) x (runX (if hs = true then X else SX) (if hs = true then n else sn) hs ini x.toNatClampNeg) = 1 → E = 1) ∧ (cdRu (if hs = true then n else sn) x (runX (if hs = true then X else SX) (if hs = true then n else sn) hs ini x.toNatClampNeg) = 2 → E = 4) ∧ (cdRu (if hs = true then n else sn) x (runX (if hs = true then X else SX) (if hs = true then n else sn) hs ini x.toNatClampNeg) = 0 → CI h1 len c L sn SX n X ch H ini (some ((runX (if hs = true then X else SX) (if hs = true then n else sn) hs ini x.toNatClampNeg).2.2.1, (runX (if hs = true then X else SX) (if hs = true then n else sn) hs ini x.toNatClampNeg).2.2.2.1, (runX (if hs = true then X else SX) (if hs = true then n else sn) hs ini x.toNatClampNeg).2.2.2.2.1)) V ∧ (runX (if hs = true then X else SX) (if hs = true then n else sn) hs ini x.toNatClampNeg).2.2.2.2.1 ≤ 2000) ∧ (¬ cdRu (if hs = true then n else sn) x (runX (if hs = true then X else SX) (if hs = true then n else sn) hs ini x.toNatClampNeg) = 0 → CI h1 len c L sn SX n X ch H ini K V) ∧ ∃ e, e ≤ 1 ∧ LK SCl e h h1 := by
  cases hs
  · rw [if_neg (show ¬ false = true by decide), if_neg (show ¬ false = true by decide)]
    obtain ⟨f, s1, s2⟩ := g.2.2.1
    exact k_runs g false s1 s2 (Or.inl rfl) rfl ⟨hsg.1.1, hsg.1.2.1, hsg.1.2.2⟩ (Or.inr ⟨rfl, lt_of (by omega) hsg.1.2.2⟩) x
  · rw [if_pos rfl, if_pos rfl]
    obtain ⟨_, _, ⟨f, s1, s2⟩, _⟩ := g.2.2.2.1
    exact k_runs g true s1 s2 (Or.inr rfl) rfl ⟨hw.1, VG_of hw, hw.2.1⟩ (Or.inl (VF_of hw.2.1 hw.2.2.1 (by omega))) x
theorem l_kdiffs (hsn : sn ≤ 30) (hsg : SG sn SX) (hn : n ≤ 60) (hw : WF n X) {L0 : Nat} (hL : L0 ≤ 50) (s : Int32) : ∀ d i, i + d = L0 → ∀ h', CI h' len c L sn SX n X ch H ini K V → LK SCl 0 h h' → ∀ v6 v7, ∃ h'', Run sc n_X9_differences 12 [aD 0, aI s, aI (nI L0), aI (nI (cnt i (fun k => dfD sn n SX X (sdI s k)))), aI (sdI s i), aI (nI i), v6, v7] none [] h' = some (.inl (some (aI (nI (cnt L0 (fun k => dfD sn n SX X (sdI s k)))))), h'') ∧ CI h'' len c L sn SX n X ch H ini K V ∧ LK SCl 0 h h'' := by
  intro d
  induction d with
  | zero =>
    intro i hi h' g lk v6 v7
    have : i = L0 := by omega
    subst this
    refine ⟨h', ?_, g, lk⟩
    rw [e_X9_differences_12, if_pos (nI_le (Nat.le_refl _) (by omega)), e_X9_differences_101]
  | succ d ih =>
    intro i hi h0 g lk0 v6 v7
    have h1 : ¬ nI L0 ≤ nI i := nI_ge (by omega) (by omega)
    obtain ⟨_, _, ⟨fs, a1, a2⟩, ⟨_, _, ⟨ff, b1, b2⟩, _⟩, _, ⟨km, ks, bo, hkm, ck1, ⟨v, o, m0, st0, c1, _⟩, ⟨v9, o9, m9, st9, c9⟩, f37, c6⟩, _⟩ := id g
    obtain ⟨h2, f', q1, q2, q3, q4⟩ := w_drawInitial (sc := sc) bo c6 (sdI s i)
    have lk2 := LK.of q4
    obtain ⟨h3, v3, o3, r1, r2, r3, r4, r5, r6⟩ := w_exec (sc := sc) (hs := false) (L0 := 300) (c1.lk lk2 (by first | omega | (dsimp only; omega)) (by first | omega | (dsimp only; omega)) (by first | omega | (dsimp only; omega))) (a1.lk lk2 (by first | omega | (dsimp only; omega)) (by first | omega | (dsimp only; omega))) a2 q2 (by omega) (by omega) ⟨hsg.1.1, hsg.1.2.1, hsg.1.2.2⟩ (Or.inr ⟨rfl, lt_of (by omega) hsg.1.2.2⟩) (by omega) q3
    have lk3 := LK.of r5
    have lk03 : LK (fun p => p = 36 ∨ (ks ≤ p ∧ p ≤ ks + 2)) 0 h0 h3 := (lk2.mono (fun p z => Or.inl z)).trans (lk3.mono (fun p z => Or.inr z))
    have q2' := (lk3.2.2.1 36 (by first | omega | (dsimp only; omega))).trans q2
    obtain ⟨h4, v4, o4, t1, t2, t3, t4, t5, t6⟩ := w_exec (sc := sc) (hs := true) (L0 := 300) (c9.lk lk03 (by first | omega | (dsimp only; omega)) (by first | omega | (dsimp only; omega)) (by first | omega | (dsimp only; omega))) (b1.lk lk03 (by first | omega | (dsimp only; omega)) (by first | omega | (dsimp only; omega))) b2 q2' (by omega) (by omega) ⟨hw.1, VG_of hw, hw.2.1⟩ (Or.inl (VF_of hw.2.1 hw.2.2.1 (by omega))) (Nat.le_refl 300) q3
    have lk4 := LK.of t5
    have lk04 : LK (fun p => p = 36 ∨ (ks ≤ p ∧ p ≤ ks + 2) ∨ (43 ≤ p ∧ p ≤ 45)) 0 h0 h4 := (lk03.mono (fun p z => by first | omega | (dsimp only at z; omega))).trans (lk4.mono (fun p z => by first | omega | (dsimp only at z; omega)))
    have r2' := r2.lk lk4 (by first | omega | (dsimp only; omega)) (by first | omega | (dsimp only; omega)) (by first | omega | (dsimp only; omega))
    have hef := ef_ag r3 r4 t3 t4
    have q5 := c_X5_hasEffectsOf (sc := sc) r2' t2 (by omega) (by omega)
    have hD : dfB sn n (runX SX sn false (drV (sdI s i)) 300) (runX X n true (drV (sdI s i)) 300) = dfD sn n SX X (sdI s i) := rfl
    unfold dfB at hD
    rw [hef] at q5
    have bo2 := bo.lk lk2 (by first | omega | (dsimp only; omega))
    have bo3 := bo.lk lk03 (by first | omega | (dsimp only; omega))
    have bo4 := bo.lk lk04 (by first | omega | (dsimp only; omega))
    have hc6 : C6 h4 K V.isSome := ⟨km, ks, bo4, hkm, ck1.lk lk04 (fun p _ _ => by first | omega | (dsimp only; omega)), ⟨v3, o3, _, _, r2', fun k hk => by cases hk⟩, ⟨v4, o4, _, _, t2⟩, f', (lk4.2.2.1 36 (by first | omega | (dsimp only; omega))).trans q2'⟩
    have gN := g.to6 lk04 (fun p hp => by first | omega | (dsimp only; omega)) hc6
    have ok0 := bo.ok (sc := sc)
    have okA : rOK sc h2 (aD ks) 7 = true := rOK_D ((lk2.2.2.1 ks (by first | omega | (dsimp only; omega))).trans c1.1)
    have okB : rOK sc h3 (aD 43) 7 = true := rOK_D ((lk03.2.2.1 43 (by first | omega | (dsimp only; omega))).trans c9.1)
    have okC : rOK sc h4 (aD ks) 7 = true := r2'.ok
    have lkN := lk0.trans (lk04.mono (T := SCl) (fun p z => by unfold SCl; first | omega | (dsimp only at z; omega)))
    generalize hA : runX SX sn false (drV (sdI s i)) 300 = A at *
    generalize hB : runX X n true (drV (sdI s i)) 300 = B at *
    have hstep : ∃ w6 w7, Run sc n_X9_differences 12 [aD 0, aI s, aI (nI L0), aI (nI (cnt i (fun k => dfD sn n SX X (sdI s k)))), aI (sdI s i), aI (nI i), v6, v7] none [] h0 = Run sc n_X9_differences 12 [aD 0, aI s, aI (nI L0), aI (nI (cnt (i + 1) (fun k => dfD sn n SX X (sdI s k)))), aI (sdI s (i + 1)), aI (nI (i + 1)), w6, w7] none [] h4 := by
      rw [e_X9_differences_12, if_neg h1]
      rw [show cnt (i + 1) (fun k => dfD sn n SX X (sdI s k)) = cnt i (fun k => dfD sn n SX X (sdI s k)) + (if dfD sn n SX X (sdI s i) = true then 1 else 0) from rfl, ← hD, show sdI s (i + 1) = drS (sdI s i) 24 from rfl]
      refine ⟨aI (zI (decide (sn ≤ A.1))), aI (zI (decide (n ≤ B.1))), ?_⟩
      simp only [e_X9_differences_18, e_X9_differences_24, e_X9_differences_30, e_X9_differences_34, e_X9_differences_39, e_X9_differences_45, e_X9_differences_51, e_X9_differences_55, e_X9_differences_60, e_X9_differences_66, bO_some, bF_I, bF_D, bF_C, bC_v, pk_mul, nI_add, Option.toList, List.cons_append, List.nil_append, ok0, q1, bo2.f10, bo2.f2, bo2.f8, bI_t okA, show nI 0 = zI false from rfl, r1, bo3.f11, bo3.f3, bo3.f8, bI_t okB, show nI 1 = zI true from rfl, t1]
      by_cases z1 : sn ≤ A.1
      · by_cases z2 : n ≤ B.1
        · rw [decide_eq_true z1, decide_eq_true z2]
          cases hz : efX A.2.2.1 A.2.2.2.1 A.2.2.2.2.1 B.2.2.1 B.2.2.2.1 B.2.2.2.2.1
          · rw [hz] at q5
            simp only [e_X9_differences_73, e_X9_differences_78, e_X9_differences_82, e_X9_differences_86, e_X9_differences_89, e_X9_differences_92, e_X9_differences_95, bO_some, bF_I, bF_D, bF_C, bC_v, pk_mul, nI_add, Option.toList, List.cons_append, List.nil_append, zI_0, if_true, if_false, eq_self, not_true_eq_false, not_false_eq_true, reduceCtorEq, bo4.f10, bo4.f11, bI_t okC, q5, Bool.not_false, Bool.and_self]
          · rw [hz] at q5
            simp only [e_X9_differences_73, e_X9_differences_78, e_X9_differences_82, e_X9_differences_86, e_X9_differences_89, e_X9_differences_95, bO_some, bF_I, bF_D, bF_C, bC_v, pk_mul, nI_add, Option.toList, List.cons_append, List.nil_append, zI_0, if_true, if_false, eq_self, not_true_eq_false, not_false_eq_true, reduceCtorEq, bo4.f10, bo4.f11, bI_t okC, q5, Bool.not_true, Bool.and_false, Nat.add_zero]
        · rw [decide_eq_true z1, decide_eq_false z2]
          simp only [e_X9_differences_73, e_X9_differences_95, bO_some, bF_I, bF_D, bF_C, bC_v, pk_mul, nI_add, Option.toList, List.cons_append, List.nil_append, zI_0, if_true, if_false, eq_self, not_true_eq_false, not_false_eq_true, reduceCtorEq, Bool.false_and, Bool.and_false, Nat.add_zero]
      · rw [decide_eq_false z1]
        simp only [e_X9_differences_95, bO_some, bF_I, bF_D, bF_C, bC_v, pk_mul, nI_add, Option.toList, List.cons_append, List.nil_append, zI_0, if_true, if_false, eq_self, not_true_eq_false, not_false_eq_true, reduceCtorEq, Bool.false_and, Nat.add_zero]
    obtain ⟨w6, w7, hstep⟩ := hstep
    obtain ⟨h5, u1, u2, u3⟩ := ih (i + 1) (by omega) h4 gN lkN w6 w7
    exact ⟨h5, hstep.trans u1, u2, u3⟩
theorem k_differences (g : CI h len c L sn SX n X ch H ini K V) (hsn : sn ≤ 30) (hsg : SG sn SX) (hn : n ≤ 60) (hw : WF n X) (s x : Int32) : ∃ h1, Call sc n_X9_differences [aD 0, aI s, aI x] h = (if cd50 x = 0 then some (.inl (some (aI (nI (cnt x.toNatClampNeg (fun k => dfD sn n SX X (sdI s k)))))), h1) else some (.inr 1, h1)) ∧ CI h1 len c L sn SX n X ch H ini K V ∧ ∃ e, e ≤ 1 ∧ LK SCl e h h1 := by
  have e1 := w_checkDrawn (sc := sc) (h := h) x
  unfold cd50
  by_cases h1 : I1 50 x
  · rw [if_pos h1] at e1 ⊢
    obtain ⟨L0, hL1, hL, rfl⟩ := has_ex1 (by omega) h1
    obtain ⟨h2, q1, q2, q3⟩ := l_kdiffs (sc := sc) (h := h) hsn hsg hn hw hL s L0 0 (by omega) h g LK.rfl aU aU
    refine ⟨h2, ?_, q2, 0, by omega, q3⟩
    rw [nI_clamp (show L0 < 2 ^ 31 by omega), if_pos rfl]
    simp only [c0_X9_differences, e_X9_differences_0, e_X9_differences_4, e1, bO_some, bF_I, bF_D, bF_C, bC_v, pk_mul, nI_add, Option.toList, List.cons_append, List.nil_append]
    exact q1
  · rw [if_neg h1] at e1 ⊢
    refine ⟨(h.1, h.2 + 1), ?_, g.exc, 1, by omega, LK.exc SCl h⟩
    simp only [c0_X9_differences, e_X9_differences_0, e1, bO_some, bF_I, bF_D, bF_C, bC_v, pk_mul, nI_add, Option.toList, List.cons_append, List.nil_append, zI_0, if_true, if_false, eq_self, not_true_eq_false, not_false_eq_true, reduceCtorEq]
    rfl
end
