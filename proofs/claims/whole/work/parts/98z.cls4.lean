/-! PURE 73: the class's calls: the form -/
theorem IR_ti {m : Nat} (hm : m < 2 ^ 31) (y : Int32) : IR m y ↔ (0 ≤ y.toInt ∧ y.toInt < m) := by
  have a := nI_toInt hm
  have a0 : (0 : Int32).toInt = 0 := rfl
  unfold IR
  rw [Int32.lt_iff_toInt_lt, Int32.le_iff_toInt_le, a, a0]
  omega
theorem IR_le {m : Nat} (hm : m < 2 ^ 30) (y : Int32) : IR (m + 1) y ↔ (¬ y < 0 ∧ y ≤ nI m) := by
  have a := nI_toInt (show m < 2 ^ 31 by omega)
  have a1 := nI_toInt (show m + 1 < 2 ^ 31 by omega)
  have a0 : (0 : Int32).toInt = 0 := rfl
  unfold IR
  rw [Int32.lt_iff_toInt_lt, Int32.le_iff_toInt_le, Int32.le_iff_toInt_le, a, a1, a0]
  omega
theorem s7_0 : (if (nI 0).toInt < 0 ∨ 6 < (nI 0).toInt then 110 else ([64, 64, 64, 64, 74, 91, 101] : List Nat).getD ((nI 0).toInt - 0).toNat 0) = 64 := by decide
theorem s7_1 : (if (nI 1).toInt < 0 ∨ 6 < (nI 1).toInt then 110 else ([64, 64, 64, 64, 74, 91, 101] : List Nat).getD ((nI 1).toInt - 0).toNat 0) = 64 := by decide
theorem s7_2 : (if (nI 2).toInt < 0 ∨ 6 < (nI 2).toInt then 110 else ([64, 64, 64, 64, 74, 91, 101] : List Nat).getD ((nI 2).toInt - 0).toNat 0) = 64 := by decide
theorem s7_3 : (if (nI 3).toInt < 0 ∨ 6 < (nI 3).toInt then 110 else ([64, 64, 64, 64, 74, 91, 101] : List Nat).getD ((nI 3).toInt - 0).toNat 0) = 64 := by decide
theorem s7_4 : (if (nI 4).toInt < 0 ∨ 6 < (nI 4).toInt then 110 else ([64, 64, 64, 64, 74, 91, 101] : List Nat).getD ((nI 4).toInt - 0).toNat 0) = 74 := by decide
theorem s7_5 : (if (nI 5).toInt < 0 ∨ 6 < (nI 5).toInt then 110 else ([64, 64, 64, 64, 74, 91, 101] : List Nat).getD ((nI 5).toInt - 0).toNat 0) = 91 := by decide
theorem s7_6 : (if (nI 6).toInt < 0 ∨ 6 < (nI 6).toInt then 110 else ([64, 64, 64, 64, 74, 91, 101] : List Nat).getD ((nI 6).toInt - 0).toNat 0) = 101 := by decide
theorem s7_n {y : Int32} (h1 : ¬ IR 7 y) : (if y.toInt < 0 ∨ 6 < y.toInt then 110 else ([64, 64, 64, 64, 74, 91, 101] : List Nat).getD (y.toInt - 0).toNat 0) = 110 := by
  rw [IR_ti (by omega)] at h1
  exact if_pos (by omega)
theorem s5_0 : (if (nI 0).toInt < 0 ∨ 4 < (nI 0).toInt then 76 else ([36, 44, 52, 60, 68] : List Nat).getD ((nI 0).toInt - 0).toNat 0) = 36 := by decide
theorem s5_1 : (if (nI 1).toInt < 0 ∨ 4 < (nI 1).toInt then 76 else ([36, 44, 52, 60, 68] : List Nat).getD ((nI 1).toInt - 0).toNat 0) = 44 := by decide
theorem s5_2 : (if (nI 2).toInt < 0 ∨ 4 < (nI 2).toInt then 76 else ([36, 44, 52, 60, 68] : List Nat).getD ((nI 2).toInt - 0).toNat 0) = 52 := by decide
theorem s5_3 : (if (nI 3).toInt < 0 ∨ 4 < (nI 3).toInt then 76 else ([36, 44, 52, 60, 68] : List Nat).getD ((nI 3).toInt - 0).toNat 0) = 60 := by decide
theorem s5_4 : (if (nI 4).toInt < 0 ∨ 4 < (nI 4).toInt then 76 else ([36, 44, 52, 60, 68] : List Nat).getD ((nI 4).toInt - 0).toNat 0) = 68 := by decide
theorem s5_n {y : Int32} (h1 : ¬ IR 5 y) : (if y.toInt < 0 ∨ 4 < y.toInt then 76 else ([36, 44, 52, 60, 68] : List Nat).getD (y.toInt - 0).toNat 0) = 76 := by
  rw [IR_ti (by omega)] at h1
  exact if_pos (by omega)
section
variable {sc : SC} {h h' : AH} {S : Nat → Prop} {e km ks len sn n ch : Nat} {c ini : Nat → Int32} {X SX : Nat → Nat → Int32} {H : HTy} {L : List Int32} {K : KTy} {V : VTy}
theorem C4.form {m : Nat} {f' : Nat → Int32} (g : C4 h n X ch H) (hf : HG (fun p => p = 9 ∨ p = 10) h h') (hp : PG h' 9 300 m f') : C4 h' m (xC m f') ch H := by
  obtain ⟨g1, ⟨l, r, w, s, g2⟩, ⟨f, g3, g4⟩, nx, g5, g6, g7, g8⟩ := g
  refine ⟨(hf 16 (by first | omega | (dsimp only; omega))).trans g1, ⟨l, r, w, s, g2.hg hf (fun p h1 h2 => by first | omega | (dsimp only; omega))⟩, ⟨f', hp, rfl⟩, nx, g5.hg hf (by first | omega | (dsimp only; omega)) (by first | omega | (dsimp only; omega)), g6, g7, fun i hi => ?_⟩
  obtain ⟨ni, fi, q1, q2⟩ := g8 i hi
  exact ⟨ni, fi, q1.hg hf (by first | omega | (dsimp only; omega)) (by first | omega | (dsimp only; omega)), q2⟩
theorem C4.flow {l r w s : Nat → Int32} (g : C4 h n X ch H) (hf : HG (fun p => 11 < p ∧ p < 16) h h') (hp : FL h' 11 9 l r w s) : C4 h' n X ch H := by
  obtain ⟨g1, _, ⟨f, g3, g4⟩, nx, g5, g6, g7, g8⟩ := g
  refine ⟨(hf 16 (by first | omega | (dsimp only; omega))).trans g1, ⟨l, r, w, s, hp⟩, ⟨f, g3.hg hf (by first | omega | (dsimp only; omega)) (by first | omega | (dsimp only; omega)), g4⟩, nx, g5.hg hf (by first | omega | (dsimp only; omega)) (by first | omega | (dsimp only; omega)), g6, g7, fun i hi => ?_⟩
  obtain ⟨ni, fi, q1, q2⟩ := g8 i hi
  exact ⟨ni, fi, q1.hg hf (by first | omega | (dsimp only; omega)) (by first | omega | (dsimp only; omega)), q2⟩
theorem CI.to4 {n' ch' : Nat} {X' : Nat → Nat → Int32} {H' : HTy} (g : CI h len c L sn SX n X ch H ini K V) (hf : LK S e h h') (hs : ∀ p, p < 9 ∨ 34 < p → ¬ S p) (g4 : C4 h' n' X' ch' H') : CI h' len c L sn SX n' X' ch' H' ini K V :=
  ⟨g.1.lk hf (fun p _ _ => hs p (by omega)), g.2.1.lk hf (fun p _ => hs p (by omega)), g.2.2.1.lk hf (fun p _ _ => hs p (by omega)), g4, g.2.2.2.2.1.lk hf (hs 35 (by omega)), g.2.2.2.2.2.1.lk hf (hs 0 (by omega)) (fun p _ _ => hs p (by omega)), g.2.2.2.2.2.2.lk hf (fun p _ _ => hs p (by omega))⟩
theorem CI.bo (g : CI h len c L sn SX n X ch H ini K V) : ∃ km ks, BO h km ks K.isSome V.isSome := by
  obtain ⟨_, _, _, _, _, ⟨km, ks, bo, _⟩, _⟩ := g
  exact ⟨km, ks, bo⟩
theorem k_rem (g4 : C4 h n X ch H) : ∃ h', Call sc n_X3_remember [aD 17, aD 9] h = some (.inl none, h') ∧ C4 h' n X (psN ch) (hsH ch H n X) ∧ Fr (fun p => 17 ≤ p ∧ p ≤ 34) h h' := by
  obtain ⟨g1, ⟨l, r, w, s, g2⟩, ⟨f, g3, g4⟩, nx, g5, g6, g7, g8⟩ := g4
  obtain ⟨n1, f1, p1, p2⟩ := g8 nx g6
  obtain ⟨h', f', q1, q2, q3, q4, q5⟩ := c_X3_remember (sc := sc) g5 g6 g7 g3 p1 (by omega) (by omega)
  have hf : HG (fun x => x = 17 ∨ x = 19 + 2 * nx ∨ x = 19 + 2 * nx + 1) h h' := q5.2.2.1
  have hN : psN ch ≤ 8 := by
    unfold psN
    split <;> omega
  refine ⟨h', q1, ⟨(hf 16 (by first | omega | (dsimp only; omega))).trans g1, ⟨l, r, w, s, g2.hg hf (fun p h1 h2 => by first | omega | (dsimp only; omega))⟩, ⟨f, g3.hg hf (by first | omega | (dsimp only; omega)) (by first | omega | (dsimp only; omega)), g4⟩, (nx + 1) % 8, ?_, by omega, hN, fun i hi => ?_⟩, q5.mono (fun p z => by first | omega | (dsimp only at z; omega))⟩
  · have e1 : (if ch < 8 then ch + 1 else 8) = psN ch := by
      unfold psN
      split <;> split <;> omega
    rw [← e1]
    exact q2
  · by_cases hi1 : i = nx
    · subst hi1
      refine ⟨n, f', q3, fun k hk hh => ?_⟩
      have e1 : hsH ch H n X k = (n, X) := by
        unfold psN at hk hh
        unfold hsH
        by_cases h8 : ch = 8
        · rw [if_pos h8] at hk hh ⊢
          rw [if_neg (by omega)]
        · rw [if_neg h8] at hk hh ⊢
          rw [if_pos (by omega)]
      rw [e1, q4, g4]
    · obtain ⟨ni, fi, z1, z2⟩ := g8 i hi
      refine ⟨ni, fi, z1.hg hf (by first | omega | (dsimp only; omega)) (by first | omega | (dsimp only; omega)), fun k hk hh => ?_⟩
      unfold psN at hk hh
      unfold hsH
      by_cases h8 : ch = 8
      · rw [if_pos h8] at hk hh ⊢
        rw [if_pos (by omega)]
        exact z2 (k + 1) (by omega) (by omega)
      · rw [if_neg h8] at hk hh ⊢
        rw [if_neg (by omega)]
        exact z2 k (by omega) (by omega)
theorem C4.okH (g4 : C4 h n X ch H) : rOK sc h (aD 17) 6 = true := by
  obtain ⟨_, _, _, nx, g5, _⟩ := g4
  exact g5.ok
theorem k_expand (g : CI h len c L sn SX n X ch H ini K V) (hsn : sn ≤ 30) (hsg : SG sn SX) : ∃ h1, Call sc n_X9_expand [aD 0] h = some (.inl (some (aI (nI (eoX SX sn)))), h1) ∧ CI h1 len c L sn SX (eoX SX sn) (expX SX sn) (psN ch) (hsH ch H n X) ini K V ∧ LK SCl 0 h h1 := by
  obtain ⟨km, ks, bo⟩ := g.bo
  have g4 := g.2.2.2.1
  obtain ⟨h2, q1, q2, q3⟩ := k_rem (sc := sc) g4
  have lk2 := LK.of q3
  have gA := g.to4 lk2 (fun p z => by first | omega | (dsimp only; omega)) q2
  have bo2 := bo.lk lk2 (by first | omega | (dsimp only; omega))
  obtain ⟨f3, s1, s2⟩ := gA.2.2.1
  have okH := g4.okH (sc := sc)
  have q20 := q2
  obtain ⟨p1, ⟨l, r, w, s, p2⟩, ⟨f, p3, p4⟩, nx, p5⟩ := q2
  have hsg' : SG sn (xC sn f3) := by
    rw [s2]
    exact hsg
  have he := (WF_exp hsn hsg).1
  obtain ⟨f4, t1, t2⟩ := c_X6_expandFrom (sc := sc) p3 s1 hsg'.1.1 hsg'.1.2.2 (by omega) (by omega)
  rw [s2] at t1 t2
  have lk3 := LK.of (p3.fr (m := eoX SX sn) (f' := f4))
  have p3' := p3.to (m := eoX SX sn) (f' := f4) (by omega)
  have c4 := C4.form q20 lk3.2.2.1 p3'
  rw [t2] at c4
  have bo3 := bo2.lk lk3 (by first | omega | (dsimp only; omega))
  refine ⟨_, ?_, gA.to4 lk3 (fun p z => by first | omega | (dsimp only; omega)) c4, (lk2.mono (fun p z => by unfold SCl; first | omega | (dsimp only at z; omega))).trans (lk3.mono (fun p z => by unfold SCl; first | omega | (dsimp only at z; omega)))⟩
  simp only [c0_X9_expand, e_X9_expand_0, e_X9_expand_4, e_X9_expand_8, e_X9_expand_11, e_X9_expand_15, e_X9_expand_19, e_X9_expand_22, e_X9_expand_26, e_X9_expand_29, bo.f6, bo.f3, bo2.f3, bo2.f2, bo3.f3, bO_some, bF_I, bF_D, bF_C, bC_v, pk_mul, nI_add, Option.toList, List.cons_append, List.nil_append, bI_t okH, q1, zI_0, if_true, if_false, eq_self, not_true_eq_false, not_false_eq_true, reduceCtorEq, bI_t p3.ok, t1, p3'.f1]
theorem k_entries (g : CI h len c L sn SX n X ch H ini K V) : Call sc n_X9_entries [aD 0] h = some (.inl (some (aI (nI n))), h) := by
  obtain ⟨km, ks, bo⟩ := g.bo
  obtain ⟨_, _, ⟨f, p3, p4⟩, _⟩ := g.2.2.2.1
  simp only [c0_X9_entries, e_X9_entries_0, e_X9_entries_4, e_X9_entries_7, bo.f3, bO_some, bF_I, bF_D, bF_C, bC_v, pk_mul, nI_add, Option.toList, List.cons_append, List.nil_append, p3.f1]
theorem k_entry (g : CI h len c L sn SX n X ch H ini K V) (hn : n ≤ 60) (hw : WF n X) (x y : Int32) : ∃ E, Call sc n_X9_entry [aD 0, aI x, aI y] h = (if cdEn n x y = 0 then some (.inl (some (aI (enX n X x.toNatClampNeg y.toNatClampNeg))), h) else some (.inr E, (h.1, h.2 + 1))) ∧ (cdEn n x y = 1 → E = 2) ∧ (cdEn n x y = 2 → E = 1) := by
  obtain ⟨km, ks, bo⟩ := g.bo
  obtain ⟨_, _, ⟨f, s1, s2⟩, _⟩ := g.2.2.2.1
  have e1 := c_X6_has (sc := sc) s1 x
  have hv : VK n (xC n f) := by
    rw [s2]
    exact hw.1
  unfold cdEn
  by_cases h1 : IR n x
  · rw [has_IR h1] at e1
    rw [if_pos h1]
    by_cases h2 : IR 7 y
    · rw [if_pos h2]
      obtain ⟨i, hi, rfl⟩ := has_ex (by omega) h1
      obtain ⟨w, hw7, rfl⟩ := has_ex (by omega) h2
      have hsl := c_X6_isSlot (sc := sc) s1 hv (i := i) (by omega)
      have hbt := c_X6_branchesTo (sc := sc) s1 hv (nI i)
      rw [s2] at hsl hbt
      rw [nI_clamp (show i < 2 ^ 31 by omega), nI_clamp (show w < 2 ^ 31 by omega)]
      refine ⟨0, ?_, (fun z => by cases z), (fun z => by cases z)⟩
      rw [if_pos rfl]
      have hw7 : w = 0 ∨ w = 1 ∨ w = 2 ∨ w = 3 ∨ w = 4 ∨ w = 5 ∨ w = 6 := by omega
      rcases hw7 with rfl | rfl | rfl | rfl | rfl | rfl | rfl
      · simp only [c0_X9_entry, e_X9_entry_0, e_X9_entry_4, e_X9_entry_8, e_X9_entry_11, e_X9_entry_21, e_X9_entry_64, e_X9_entry_68, e_X9_entry_73, e_X9_entry_74, e_X9_entry_78, e_X9_entry_82, e_X9_entry_85, e_X9_entry_89, e_X9_entry_90, e_X9_entry_91, e_X9_entry_95, e_X9_entry_100, e_X9_entry_101, e_X9_entry_105, e_X9_entry_109, e_X9_entry_110, bo.f3, bO_some, bF_I, bF_D, bF_C, bC_v, pk_mul, nI_add, Option.toList, List.cons_append, List.nil_append, bI_t s1.ok, e1, zI_0, if_true, if_false, eq_self, not_true_eq_false, not_false_eq_true, reduceCtorEq, s7_0, c_X6_part s1 hi (show 0 < 5 by omega), s2]
        rfl
      · simp only [c0_X9_entry, e_X9_entry_0, e_X9_entry_4, e_X9_entry_8, e_X9_entry_11, e_X9_entry_21, e_X9_entry_64, e_X9_entry_68, e_X9_entry_73, e_X9_entry_74, e_X9_entry_78, e_X9_entry_82, e_X9_entry_85, e_X9_entry_89, e_X9_entry_90, e_X9_entry_91, e_X9_entry_95, e_X9_entry_100, e_X9_entry_101, e_X9_entry_105, e_X9_entry_109, e_X9_entry_110, bo.f3, bO_some, bF_I, bF_D, bF_C, bC_v, pk_mul, nI_add, Option.toList, List.cons_append, List.nil_append, bI_t s1.ok, e1, zI_0, if_true, if_false, eq_self, not_true_eq_false, not_false_eq_true, reduceCtorEq, s7_1, c_X6_part s1 hi (show 1 < 5 by omega), s2]
        rfl
      · simp only [c0_X9_entry, e_X9_entry_0, e_X9_entry_4, e_X9_entry_8, e_X9_entry_11, e_X9_entry_21, e_X9_entry_64, e_X9_entry_68, e_X9_entry_73, e_X9_entry_74, e_X9_entry_78, e_X9_entry_82, e_X9_entry_85, e_X9_entry_89, e_X9_entry_90, e_X9_entry_91, e_X9_entry_95, e_X9_entry_100, e_X9_entry_101, e_X9_entry_105, e_X9_entry_109, e_X9_entry_110, bo.f3, bO_some, bF_I, bF_D, bF_C, bC_v, pk_mul, nI_add, Option.toList, List.cons_append, List.nil_append, bI_t s1.ok, e1, zI_0, if_true, if_false, eq_self, not_true_eq_false, not_false_eq_true, reduceCtorEq, s7_2, c_X6_part s1 hi (show 2 < 5 by omega), s2]
        rfl
      · simp only [c0_X9_entry, e_X9_entry_0, e_X9_entry_4, e_X9_entry_8, e_X9_entry_11, e_X9_entry_21, e_X9_entry_64, e_X9_entry_68, e_X9_entry_73, e_X9_entry_74, e_X9_entry_78, e_X9_entry_82, e_X9_entry_85, e_X9_entry_89, e_X9_entry_90, e_X9_entry_91, e_X9_entry_95, e_X9_entry_100, e_X9_entry_101, e_X9_entry_105, e_X9_entry_109, e_X9_entry_110, bo.f3, bO_some, bF_I, bF_D, bF_C, bC_v, pk_mul, nI_add, Option.toList, List.cons_append, List.nil_append, bI_t s1.ok, e1, zI_0, if_true, if_false, eq_self, not_true_eq_false, not_false_eq_true, reduceCtorEq, s7_3, c_X6_part s1 hi (show 3 < 5 by omega), s2]
        rfl
      · have e4 : enX n X i 4 = zI (slX X i) := rfl
        rw [e4]
        cases hb : slX X i
        · rw [hb] at hsl
          simp only [c0_X9_entry, e_X9_entry_0, e_X9_entry_4, e_X9_entry_8, e_X9_entry_11, e_X9_entry_21, e_X9_entry_64, e_X9_entry_68, e_X9_entry_73, e_X9_entry_74, e_X9_entry_78, e_X9_entry_82, e_X9_entry_85, e_X9_entry_89, e_X9_entry_90, e_X9_entry_91, e_X9_entry_95, e_X9_entry_100, e_X9_entry_101, e_X9_entry_105, e_X9_entry_109, e_X9_entry_110, bo.f3, bO_some, bF_I, bF_D, bF_C, bC_v, pk_mul, nI_add, Option.toList, List.cons_append, List.nil_append, bI_t s1.ok, e1, zI_0, if_true, if_false, eq_self, not_true_eq_false, not_false_eq_true, reduceCtorEq, s7_4, hsl]
          rfl
        · rw [hb] at hsl
          simp only [c0_X9_entry, e_X9_entry_0, e_X9_entry_4, e_X9_entry_8, e_X9_entry_11, e_X9_entry_21, e_X9_entry_64, e_X9_entry_68, e_X9_entry_73, e_X9_entry_74, e_X9_entry_78, e_X9_entry_82, e_X9_entry_85, e_X9_entry_89, e_X9_entry_90, e_X9_entry_91, e_X9_entry_95, e_X9_entry_100, e_X9_entry_101, e_X9_entry_105, e_X9_entry_109, e_X9_entry_110, bo.f3, bO_some, bF_I, bF_D, bF_C, bC_v, pk_mul, nI_add, Option.toList, List.cons_append, List.nil_append, bI_t s1.ok, e1, zI_0, if_true, if_false, eq_self, not_true_eq_false, not_false_eq_true, reduceCtorEq, s7_4, hsl]
          rfl
      · simp only [c0_X9_entry, e_X9_entry_0, e_X9_entry_4, e_X9_entry_8, e_X9_entry_11, e_X9_entry_21, e_X9_entry_64, e_X9_entry_68, e_X9_entry_73, e_X9_entry_74, e_X9_entry_78, e_X9_entry_82, e_X9_entry_85, e_X9_entry_89, e_X9_entry_90, e_X9_entry_91, e_X9_entry_95, e_X9_entry_100, e_X9_entry_101, e_X9_entry_105, e_X9_entry_109, e_X9_entry_110, bo.f3, bO_some, bF_I, bF_D, bF_C, bC_v, pk_mul, nI_add, Option.toList, List.cons_append, List.nil_append, bI_t s1.ok, e1, zI_0, if_true, if_false, eq_self, not_true_eq_false, not_false_eq_true, reduceCtorEq, s7_5, c_X6_part s1 hi (show 4 < 5 by omega), s2]
        rfl
      · simp only [c0_X9_entry, e_X9_entry_0, e_X9_entry_4, e_X9_entry_8, e_X9_entry_11, e_X9_entry_21, e_X9_entry_64, e_X9_entry_68, e_X9_entry_73, e_X9_entry_74, e_X9_entry_78, e_X9_entry_82, e_X9_entry_85, e_X9_entry_89, e_X9_entry_90, e_X9_entry_91, e_X9_entry_95, e_X9_entry_100, e_X9_entry_101, e_X9_entry_105, e_X9_entry_109, e_X9_entry_110, bo.f3, bO_some, bF_I, bF_D, bF_C, bC_v, pk_mul, nI_add, Option.toList, List.cons_append, List.nil_append, bI_t s1.ok, e1, zI_0, if_true, if_false, eq_self, not_true_eq_false, not_false_eq_true, reduceCtorEq, s7_6, hbt]
        rfl
    · rw [if_neg h2]
      refine ⟨1, ?_, (fun z => by cases z), (fun _ => rfl)⟩
      simp only [c0_X9_entry, e_X9_entry_0, e_X9_entry_4, e_X9_entry_8, e_X9_entry_11, e_X9_entry_21, e_X9_entry_64, e_X9_entry_68, e_X9_entry_73, e_X9_entry_74, e_X9_entry_78, e_X9_entry_82, e_X9_entry_85, e_X9_entry_89, e_X9_entry_90, e_X9_entry_91, e_X9_entry_95, e_X9_entry_100, e_X9_entry_101, e_X9_entry_105, e_X9_entry_109, e_X9_entry_110, bo.f3, bO_some, bF_I, bF_D, bF_C, bC_v, pk_mul, nI_add, Option.toList, List.cons_append, List.nil_append, bI_t s1.ok, e1, zI_0, if_true, if_false, eq_self, not_true_eq_false, not_false_eq_true, reduceCtorEq, s7_n h2]
  · rw [has_nIR h1] at e1
    rw [if_neg h1]
    refine ⟨2, ?_, (fun _ => rfl), (fun z => by cases z)⟩
    simp only [c0_X9_entry, e_X9_entry_0, e_X9_entry_4, e_X9_entry_8, e_X9_entry_11, e_X9_entry_21, e_X9_entry_64, e_X9_entry_68, e_X9_entry_73, e_X9_entry_74, e_X9_entry_78, e_X9_entry_82, e_X9_entry_85, e_X9_entry_89, e_X9_entry_90, e_X9_entry_91, e_X9_entry_95, e_X9_entry_100, e_X9_entry_101, e_X9_entry_105, e_X9_entry_109, e_X9_entry_110, bo.f3, bO_some, bF_I, bF_D, bF_C, bC_v, pk_mul, nI_add, Option.toList, List.cons_append, List.nil_append, bI_t s1.ok, e1, zI_0, if_true, if_false, eq_self, not_true_eq_false, not_false_eq_true, reduceCtorEq]
theorem k_count (g : CI h len c L sn SX n X ch H ini K V) (hn : n ≤ 60) (hw : WF n X) (x : Int32) : ∃ E h1, Call sc n_X9_count [aD 0, aI x] h = (if cdCt x = 0 then some (.inl (some (aI (nI (cnt n (ctP n X x.toNatClampNeg))))), h1) else some (.inr E, h1)) ∧ (cdCt x = 1 → E = 1) ∧ CI h1 len c L sn SX n X ch H ini K V ∧ ∃ e, e ≤ 1 ∧ LK SCl e h h1 := by
  obtain ⟨km, ks, bo⟩ := g.bo
  have g4 := g.2.2.2.1
  obtain ⟨_, ⟨l, r, w, s, p2⟩, ⟨f, s1, s2⟩, _⟩ := g.2.2.2.1
  have hw' : WF n (xC n f) := by
    rw [s2]
    exact hw
  unfold cdCt
  by_cases h1 : IR 5 x
  · rw [if_pos h1]
    obtain ⟨w, hw7, rfl⟩ := has_ex (by omega) h1
    rw [nI_clamp (show w < 2 ^ 31 by omega)]
    have hw7 : w = 0 ∨ w = 1 ∨ w = 2 ∨ w = 3 ∨ w = 4 := by omega
    rcases hw7 with rfl | rfl | rfl | rfl | rfl
    · refine ⟨0, h, ?_, (fun z => by cases z), g, 0, by omega, LK.rfl⟩
      simp only [c0_X9_count, e_X9_count_0, e_X9_count_36, e_X9_count_40, e_X9_count_43, e_X9_count_44, e_X9_count_48, e_X9_count_51, e_X9_count_52, e_X9_count_56, e_X9_count_59, e_X9_count_60, e_X9_count_64, e_X9_count_67, e_X9_count_68, e_X9_count_72, e_X9_count_75, e_X9_count_76, bo.f3, bO_some, bF_I, bF_D, bF_C, bC_v, pk_mul, nI_add, Option.toList, List.cons_append, List.nil_append, bI_t s1.ok, zI_0, if_true, if_false, eq_self, not_true_eq_false, not_false_eq_true, reduceCtorEq, s5_0, c_X6_branches s1 hw'.1, s2]
      rfl
    · refine ⟨0, h, ?_, (fun z => by cases z), g, 0, by omega, LK.rfl⟩
      have e1 : cnt n (ctP n X 1) = cnt n (fun k => esX X k) := cnt_es hw.2.2.1
      rw [e1]
      simp only [c0_X9_count, e_X9_count_0, e_X9_count_36, e_X9_count_40, e_X9_count_43, e_X9_count_44, e_X9_count_48, e_X9_count_51, e_X9_count_52, e_X9_count_56, e_X9_count_59, e_X9_count_60, e_X9_count_64, e_X9_count_67, e_X9_count_68, e_X9_count_72, e_X9_count_75, e_X9_count_76, bo.f3, bO_some, bF_I, bF_D, bF_C, bC_v, pk_mul, nI_add, Option.toList, List.cons_append, List.nil_append, bI_t s1.ok, zI_0, if_true, if_false, eq_self, not_true_eq_false, not_false_eq_true, reduceCtorEq, s5_1, c_X6_emptySlots s1 hw'.1 hw'.2.2.1, s2]
    · refine ⟨0, h, ?_, (fun z => by cases z), g, 0, by omega, LK.rfl⟩
      simp only [c0_X9_count, e_X9_count_0, e_X9_count_36, e_X9_count_40, e_X9_count_43, e_X9_count_44, e_X9_count_48, e_X9_count_51, e_X9_count_52, e_X9_count_56, e_X9_count_59, e_X9_count_60, e_X9_count_64, e_X9_count_67, e_X9_count_68, e_X9_count_72, e_X9_count_75, e_X9_count_76, bo.f3, bO_some, bF_I, bF_D, bF_C, bC_v, pk_mul, nI_add, Option.toList, List.cons_append, List.nil_append, bI_t s1.ok, zI_0, if_true, if_false, eq_self, not_true_eq_false, not_false_eq_true, reduceCtorEq, s5_2, c_X6_annullingBranches s1 (fun i hi => (hw'.2.2.2.1 i hi).imp id (fun z => z.1)), s2]
      rfl
    · refine ⟨0, h, ?_, (fun z => by cases z), g, 0, by omega, LK.rfl⟩
      simp only [c0_X9_count, e_X9_count_0, e_X9_count_36, e_X9_count_40, e_X9_count_43, e_X9_count_44, e_X9_count_48, e_X9_count_51, e_X9_count_52, e_X9_count_56, e_X9_count_59, e_X9_count_60, e_X9_count_64, e_X9_count_67, e_X9_count_68, e_X9_count_72, e_X9_count_75, e_X9_count_76, bo.f3, bO_some, bF_I, bF_D, bF_C, bC_v, pk_mul, nI_add, Option.toList, List.cons_append, List.nil_append, bI_t s1.ok, zI_0, if_true, if_false, eq_self, not_true_eq_false, not_false_eq_true, reduceCtorEq, s5_3, c_X6_nops s1 hw'.1, s2]
      rfl
    · obtain ⟨s', q1⟩ := c_X2_unreachable (sc := sc) p2 s1 (by omega) hw'.1 hw'.2.1 hw'.2.2.1
      rw [s2] at q1
      have lk := LK.of (p2.frR (s' := s'))
      refine ⟨0, rset h 11 s', ?_, (fun z => by cases z), g.to4 lk (fun p z => by first | omega | (dsimp only; omega)) (g4.flow (fun p hp => lk.2.2.1 p (by first | omega | (dsimp only; omega))) (p2.toR (s' := s'))), 0, by omega, lk.mono (fun p z => by unfold SCl; first | omega | (dsimp only at z; omega))⟩
      simp only [c0_X9_count, e_X9_count_0, e_X9_count_36, e_X9_count_40, e_X9_count_43, e_X9_count_44, e_X9_count_48, e_X9_count_51, e_X9_count_52, e_X9_count_56, e_X9_count_59, e_X9_count_60, e_X9_count_64, e_X9_count_67, e_X9_count_68, e_X9_count_72, e_X9_count_75, e_X9_count_76, bo.f4, bO_some, bF_I, bF_D, bF_C, bC_v, pk_mul, nI_add, Option.toList, List.cons_append, List.nil_append, bI_t p2.ok, zI_0, if_true, if_false, eq_self, not_true_eq_false, not_false_eq_true, reduceCtorEq, s5_4, q1]
      rfl
  · rw [if_neg h1]
    refine ⟨1, (h.1, h.2 + 1), ?_, (fun _ => rfl), g.exc, 1, by omega, LK.exc _ h⟩
    simp only [c0_X9_count, e_X9_count_0, e_X9_count_36, e_X9_count_40, e_X9_count_43, e_X9_count_44, e_X9_count_48, e_X9_count_51, e_X9_count_52, e_X9_count_56, e_X9_count_59, e_X9_count_60, e_X9_count_64, e_X9_count_67, e_X9_count_68, e_X9_count_72, e_X9_count_75, e_X9_count_76, bO_some, bF_I, bF_D, bF_C, bC_v, pk_mul, nI_add, Option.toList, List.cons_append, List.nil_append, zI_0, if_true, if_false, eq_self, not_true_eq_false, not_false_eq_true, reduceCtorEq, s5_n h1]
theorem k_live (g : CI h len c L sn SX n X ch H ini K V) (hn : n ≤ 60) (hw : WF n X) (x : Int32) : ∃ E h1, Call sc n_X9_live [aD 0, aI x] h = (if cdLi n X x = 0 then some (.inl (some (aI (lvAt X n x.toNatClampNeg))), h1) else some (.inr E, h1)) ∧ (cdLi n X x = 1 → E = 2) ∧ (cdLi n X x = 2 → E = 0) ∧ CI h1 len c L sn SX n X ch H ini K V ∧ ∃ e, e ≤ 1 ∧ LK SCl e h h1 := by
  obtain ⟨km, ks, bo⟩ := g.bo
  have g4 := g.2.2.2.1
  obtain ⟨_, ⟨l, r, w, s, p2⟩, ⟨f, s1, s2⟩, _⟩ := g.2.2.2.1
  have hw' : WF n (xC n f) := by
    rw [s2]
    exact hw
  unfold cdLi
  by_cases h1 : IR (n + 1) x
  · rw [if_pos h1]
    obtain ⟨z1, z2⟩ := (IR_le (by omega) x).mp h1
    obtain ⟨i, hi, rfl⟩ := has_ex (by omega) h1
    rw [nI_clamp (show i < 2 ^ 31 by omega)]
    have hsl := c_X6_isSlot (sc := sc) s1 hw'.1 (i := i) (by omega)
    rw [s2] at hsl
    cases hb : slX X i
    · rw [if_neg (by decide)]
      rw [hb] at hsl
      obtain ⟨l', r', w', q1⟩ := c_X2_liveBefore (sc := sc) p2 s1 (by omega) hw'.1 hw'.2.1 hw'.2.2.1 (i := i) (by omega)
      rw [s2] at q1
      have lk := LK.of (p2.fr (l' := l') (r' := r') (w' := w'))
      refine ⟨0, fset h 11 l' r' w', ?_, (fun z => by cases z), (fun z => by cases z), g.to4 lk (fun p z => by first | omega | (dsimp only; omega)) (g4.flow (fun p hp => lk.2.2.1 p (by first | omega | (dsimp only; omega))) (p2.to (l' := l') (r' := r') (w' := w'))), 0, by omega, lk.mono (fun p z => by unfold SCl; first | omega | (dsimp only at z; omega))⟩
      simp only [c0_X9_live, e_X9_live_0, e_X9_live_4, e_X9_live_9, e_X9_live_12, e_X9_live_15, e_X9_live_25, e_X9_live_29, e_X9_live_33, e_X9_live_36, e_X9_live_46, e_X9_live_50, e_X9_live_54, bo.f3, bo.f4, bO_some, bF_I, bF_D, bF_C, bC_v, pk_mul, nI_add, Option.toList, List.cons_append, List.nil_append, z1, z2, s1.f1, bI_t s1.ok, bI_t p2.ok, hsl, zI_0, if_true, if_false, eq_self, not_true_eq_false, not_false_eq_true, reduceCtorEq, q1]
    · rw [if_pos rfl]
      rw [hb] at hsl
      refine ⟨0, (h.1, h.2 + 1), ?_, (fun z => by cases z), (fun _ => rfl), g.exc, 1, by omega, LK.exc _ h⟩
      simp only [c0_X9_live, e_X9_live_0, e_X9_live_4, e_X9_live_9, e_X9_live_12, e_X9_live_15, e_X9_live_25, e_X9_live_29, e_X9_live_33, e_X9_live_36, e_X9_live_46, e_X9_live_50, e_X9_live_54, bo.f3, bo.f4, bO_some, bF_I, bF_D, bF_C, bC_v, pk_mul, nI_add, Option.toList, List.cons_append, List.nil_append, z1, z2, s1.f1, bI_t s1.ok, hsl, zI_0, if_true, if_false, eq_self, not_true_eq_false, not_false_eq_true, reduceCtorEq]
  · rw [if_neg h1]
    refine ⟨2, (h.1, h.2 + 1), ?_, (fun _ => rfl), (fun z => by cases z), g.exc, 1, by omega, LK.exc _ h⟩
    by_cases z1 : x < 0
    · simp only [c0_X9_live, e_X9_live_0, e_X9_live_4, e_X9_live_9, e_X9_live_12, e_X9_live_15, e_X9_live_25, e_X9_live_29, e_X9_live_33, e_X9_live_36, e_X9_live_46, e_X9_live_50, e_X9_live_54, bO_some, bF_I, bF_D, bF_C, bC_v, pk_mul, nI_add, Option.toList, List.cons_append, List.nil_append, z1, zI_0, if_true, if_false, eq_self, not_true_eq_false, not_false_eq_true, reduceCtorEq]
    · have z2 : ¬ x ≤ nI n := fun z => h1 ((IR_le (by omega) x).mpr ⟨z1, z⟩)
      simp only [c0_X9_live, e_X9_live_0, e_X9_live_4, e_X9_live_9, e_X9_live_12, e_X9_live_15, e_X9_live_25, e_X9_live_29, e_X9_live_33, e_X9_live_36, e_X9_live_46, e_X9_live_50, e_X9_live_54, bo.f3, bO_some, bF_I, bF_D, bF_C, bC_v, pk_mul, nI_add, Option.toList, List.cons_append, List.nil_append, z1, z2, s1.f1, zI_0, if_true, if_false, eq_self, not_true_eq_false, not_false_eq_true, reduceCtorEq]
theorem k_isIndependent (g : CI h len c L sn SX n X ch H ini K V) (hn : n ≤ 60) (hw : WF n X) (x y : Int32) : ∃ E, Call sc n_X9_isIndependent [aD 0, aI x, aI y] h = (if cdId n x y = 0 then some (.inl (some (aI (zI (indX X x.toNatClampNeg y.toNatClampNeg)))), h) else some (.inr E, (h.1, h.2 + 1))) ∧ (cdId n x y = 1 → E = 2) := by
  obtain ⟨km, ks, bo⟩ := g.bo
  obtain ⟨_, _, ⟨f, s1, s2⟩, _⟩ := g.2.2.2.1
  have e1 := c_X6_has (sc := sc) s1 x
  have e2 := c_X6_has (sc := sc) s1 y
  have hv : VK n (xC n f) := by
    rw [s2]
    exact hw.1
  unfold cdId
  by_cases h1 : IR n x
  · rw [has_IR h1] at e1
    by_cases h2 : IR n y
    · rw [has_IR h2] at e2
      rw [if_pos ⟨h1, h2⟩]
      obtain ⟨i, hi, rfl⟩ := has_ex (by omega) h1
      obtain ⟨j, hj, rfl⟩ := has_ex (by omega) h2
      rw [nI_clamp (show i < 2 ^ 31 by omega), nI_clamp (show j < 2 ^ 31 by omega)]
      refine ⟨0, ?_, (fun z => by cases z)⟩
      simp only [c0_X9_isIndependent, e_X9_isIndependent_0, e_X9_isIndependent_4, e_X9_isIndependent_8, e_X9_isIndependent_11, e_X9_isIndependent_15, e_X9_isIndependent_19, e_X9_isIndependent_22, e_X9_isIndependent_32, e_X9_isIndependent_36, e_X9_isIndependent_41, bo.f3, bO_some, bF_I, bF_D, bF_C, bC_v, pk_mul, nI_add, Option.toList, List.cons_append, List.nil_append, bI_t s1.ok, e1, e2, zI_0, if_true, if_false, eq_self, not_true_eq_false, not_false_eq_true, reduceCtorEq, c_X6_areIndependent s1 hv hi hj, s2, bI_t (zI_ret _)]
    · rw [has_nIR h2] at e2
      rw [if_neg (fun z => h2 z.2)]
      refine ⟨2, ?_, (fun _ => rfl)⟩
      simp only [c0_X9_isIndependent, e_X9_isIndependent_0, e_X9_isIndependent_4, e_X9_isIndependent_8, e_X9_isIndependent_11, e_X9_isIndependent_15, e_X9_isIndependent_19, e_X9_isIndependent_22, e_X9_isIndependent_32, e_X9_isIndependent_36, e_X9_isIndependent_41, bo.f3, bO_some, bF_I, bF_D, bF_C, bC_v, pk_mul, nI_add, Option.toList, List.cons_append, List.nil_append, bI_t s1.ok, e1, e2, zI_0, if_true, if_false, eq_self, not_true_eq_false, not_false_eq_true, reduceCtorEq]
  · rw [has_nIR h1] at e1
    rw [if_neg (fun z => h1 z.1)]
    refine ⟨2, ?_, (fun _ => rfl)⟩
    simp only [c0_X9_isIndependent, e_X9_isIndependent_0, e_X9_isIndependent_4, e_X9_isIndependent_8, e_X9_isIndependent_11, e_X9_isIndependent_15, e_X9_isIndependent_19, e_X9_isIndependent_22, e_X9_isIndependent_32, e_X9_isIndependent_36, e_X9_isIndependent_41, bo.f3, bO_some, bF_I, bF_D, bF_C, bC_v, pk_mul, nI_add, Option.toList, List.cons_append, List.nil_append, bI_t s1.ok, e1, zI_0, if_true, if_false, eq_self, not_true_eq_false, not_false_eq_true, reduceCtorEq]
end
