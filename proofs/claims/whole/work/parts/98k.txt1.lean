/-! PURE 58: what a text that is read holds -/
theorem dg_val {c : Nat → Int32} {len p : Nat} (hd : dgX c len p = true) : ∃ a, a < 10 ∧ c p = nI (48 + a) := by
  unfold dgX at hd
  simp only [Bool.and_eq_true, decide_eq_true_eq] at hd
  obtain ⟨_, h1, h2⟩ := hd
  rw [Int32.lt_iff_toInt_lt] at h1 h2
  have a1 : (nI 48).toInt = 48 := by decide
  have a2 : (nI 57).toInt = 57 := by decide
  rw [a1] at h1
  rw [a2] at h2
  refine ⟨((c p).toInt - 48).toNat, by omega, ?_⟩
  apply Int32.toInt_inj.mp
  rw [nI_toInt (by omega)]
  omega
theorem dg_1 : ∀ a, a < 10 → nI (48 + a) - nI 48 = nI a := by decide
theorem dg_2 : ∀ a, a < 10 → ∀ b, b < 10 → (nI 10 * (nI (48 + a) - nI 48) + nI (48 + b)) - nI 48 = nI (10 * a + b) := by decide +kernel
theorem nu_val {c : Nat → Int32} {len pos : Nat} {neg : Bool} (hh : (nuX c len pos neg).1 = true) : ∃ a, a < 100 ∧ ((nuX c len pos neg).2.2 = nI a ∨ (neg = true ∧ (nuX c len pos neg).2.2 = -(nI a))) := by
  unfold nuX at hh ⊢
  simp only at hh ⊢
  have hneg : (neg && psX c len pos (nI 45)) = true → neg = true := fun z => by
    rw [Bool.and_eq_true] at z
    exact z.1
  generalize hp1 : (if (neg && psX c len pos (nI 45)) = true then pos + 1 else pos) = p1 at hh ⊢
  by_cases hd : dgX c len p1 = true
  · simp only [hd, if_true]
    obtain ⟨a, ha, h1⟩ := dg_val hd
    have hv : ∃ y, y < 100 ∧ (if dgX c len (p1 + 1) = true then (nI 10 * (c p1 - nI 48) + c (p1 + 1)) - nI 48 else c p1 - nI 48) = nI y := by
      by_cases hd2 : dgX c len (p1 + 1) = true
      · obtain ⟨b, hb, h2⟩ := dg_val hd2
        refine ⟨10 * a + b, by omega, ?_⟩
        rw [if_pos hd2, h1, h2, dg_2 a ha b hb]
      · refine ⟨a, by omega, ?_⟩
        rw [if_neg hd2, h1, dg_1 a ha]
    obtain ⟨y, hy, hv⟩ := hv
    refine ⟨y, hy, ?_⟩
    rw [hv]
    by_cases hm : (neg && psX c len pos (nI 45)) = true
    · rw [if_pos hm]
      exact Or.inr ⟨hneg hm, rfl⟩
    · rw [if_neg hm]
      exact Or.inl rfl
  · simp only [hd, if_false, reduceCtorEq] at hh
/-- an operand's number, by its sign -/
def GV (s v : Int32) : Prop := (s = nI 45 → v = nI 0) ∧ (¬ s = nI 45 → ∃ a, a < 100 ∧ (v = nI a ∨ (s = nI 110 ∧ v = -(nI a))))
theorem op_val {c : Nat → Int32} {len k : Nat} : ∀ d o, o + d = 3 → ∀ pos vs, (∀ i, o ≤ i → vs i = 0) → (∀ i, i < o → GV ((fL k).getD i 0) (vs i)) → (opX c len k d o pos vs).1 = true → ∀ i, i < 3 → GV ((fL k).getD i 0) ((opX c len k d o pos vs).2.2 i) := by
  intro d
  induction d with
  | zero =>
    intro o ho pos vs h0 h1 _ i hi
    exact h1 i (by omega)
  | succ d ih =>
    intro o ho pos vs h0 h1
    unfold opX
    by_cases hd : (fL k).getD o 0 = nI 45
    · rw [if_pos hd]
      refine ih (o + 1) (by omega) pos vs (fun i hi => h0 i (by omega)) (fun i hi => ?_)
      by_cases hio : i = o
      · subst hio
        exact ⟨fun _ => h0 i (Nat.le_refl i), fun z => absurd hd z⟩
      · exact h1 i (by omega)
    · rw [if_neg hd]
      by_cases hps : psX c len pos (nI 32) = true
      · rw [if_pos hps]
        by_cases hnu : (nuX c len (pos + 1) (decide ((fL k).getD o 0 = nI 110))).1 = true
        · rw [if_pos hnu]
          obtain ⟨a, ha, hv⟩ := nu_val hnu
          refine ih (o + 1) (by omega) _ _ (fun i hi => by rw [upd_eq, if_neg (by omega)]; exact h0 i (by omega)) (fun i hi => ?_)
          rw [upd_eq]
          by_cases hio : i = o
          · subst hio
            rw [if_pos rfl]
            refine ⟨fun z => absurd z hd, fun _ => ⟨a, ha, ?_⟩⟩
            rcases hv with hv | ⟨hv1, hv2⟩
            · exact Or.inl hv
            · exact Or.inr ⟨of_decide_eq_true hv1, hv2⟩
          · rw [if_neg hio]
            exact h1 i (by omega)
        · rw [if_neg hnu]
          intro z
          cases z
      · rw [if_neg hps]
        intro z
        cases z
/-- a row of numbers that a text may give -/
def GR (X : Nat → Nat → Int32) (i : Nat) : Prop := (X i 0 = nI (kx X i) ∧ kx X i < 12) ∧ (∀ o, o < 3 → GV ((fL (kx X i)).getD o 0) (X i (1 + o))) ∧ X i 4 = nI 0
theorem app_lt {n : Nat} {X : Nat → Nat → Int32} {K : Nat → Int32} {i : Nat} (hi : i < n) : appX n X K i = X i := by
  funext w
  unfold appX
  rw [if_neg (by omega)]
theorem kx_app {n : Nat} {X : Nat → Nat → Int32} {K : Nat → Int32} {i : Nat} (hi : i < n) : kx (appX n X K) i = kx X i := by
  unfold kx
  rw [app_lt hi]
theorem GR_app {n : Nat} {X : Nat → Nat → Int32} {K : Nat → Int32} {i : Nat} (hi : i < n) (hg : GR X i) : GR (appX n X K) i := by
  unfold GR at hg ⊢
  rw [kx_app hi, app_lt hi]
  exact hg
theorem GR_in {c : Nat → Int32} {len pos n : Nat} {X : Nat → Nat → Int32} (hp : pos ≤ len) (hh : (inX c len pos).1 = true) : GR (appX n X (row (nI (inX c len pos).2.2.1) ((inX c len pos).2.2.2 0) ((inX c len pos).2.2.2 1) ((inX c len pos).2.2.2 2) 0)) n := by
  unfold inX at hh ⊢
  cases hk : knX c len pos with
  | none =>
    rw [hk] at hh
    cases hh
  | some k =>
    rw [hk] at hh
    have hk2 := knd_ok hk hp
    have h1 := op_val (c := c) (len := len) (k := k) 3 0 rfl (pos + (wL k).length) (fun _ => 0) (fun _ _ => rfl) (fun i hi => by omega) hh
    simp only
    generalize (opX c len k 3 0 (pos + (wL k).length) (fun _ => 0)).2.2 = vs at *
    have hkx : kx (appX n X (row (nI k) (vs 0) (vs 1) (vs 2) 0)) n = k := by
      unfold kx appX
      rw [if_pos rfl, if_pos (by omega)]
      show (nI k).toNatClampNeg = k
      exact nI_clamp (by omega)
    refine ⟨⟨?_, ?_⟩, ?_, ?_⟩
    · rw [hkx]
      unfold appX
      rw [if_pos rfl, if_pos (by omega)]
      rfl
    · rw [hkx]
      exact hk2.1
    · intro o ho
      rw [hkx]
      have h3 : o = 0 ∨ o = 1 ∨ o = 2 := by omega
      unfold appX
      rw [if_pos rfl, if_pos (by omega)]
      rcases h3 with rfl | rfl | rfl
      · exact h1 0 (by omega)
      · exact h1 1 (by omega)
      · exact h1 2 (by omega)
    · unfold appX
      rw [if_pos rfl, if_pos (by omega)]
      rfl
theorem in_le {c : Nat → Int32} {len pos : Nat} (hl : len ≤ 120) (hp : pos ≤ len) : (inX c len pos).2.1 ≤ len := by
  obtain ⟨m', g', _, _, h3⟩ := r_readInstruction (sc := (0, fun _ => 0)) (h := ([], 0)) (φ := upd (fun _ => 0) 8 (nI len)) (ρ := fun _ => c) (len := len) (pos := pos) (m := 0) rfl hl hp (by omega)
  exact h3
theorem tx_ok {c : Nat → Int32} {len : Nat} (hl : len ≤ 120) : ∀ d (st : Bool × Nat × Nat × (Nat → Nat → Int32)), st.2.1 ≤ len → (st.1 = true → 4 * st.2.2.1 ≤ st.2.1 + 1 ∧ ∀ i, i < st.2.2.1 → GR st.2.2.2 i) → (txX c len d st).2.1 ≤ len ∧ ((txX c len d st).1 = true → 4 * (txX c len d st).2.2.1 ≤ (txX c len d st).2.1 + 1 ∧ ∀ i, i < (txX c len d st).2.2.1 → GR (txX c len d st).2.2.2 i) := by
  intro d
  induction d with
  | zero => exact fun st h1 h2 => ⟨h1, h2⟩
  | succ d ih =>
    intro st h1 h2
    unfold txX
    by_cases hh : st.1 = true ∧ st.2.1 < len
    · rw [if_pos hh]
      obtain ⟨h3, h4⟩ := h2 hh.1
      by_cases hps : psX c len st.2.1 (nI 59) = true
      · rw [if_pos hps]
        refine ih _ (in_le hl (by omega)) (fun hok => ?_)
        have h5 := in_ge hok (by omega)
        refine ⟨by show 4 * (st.2.2.1 + 1) ≤ (inX c len (st.2.1 + 1)).2.1 + 1; omega, fun i hi => ?_⟩
        have hi2 : i < st.2.2.1 + 1 := hi
        by_cases hin : i = st.2.2.1
        · subst hin
          exact GR_in (by omega) hok
        · exact GR_app (by omega) (h4 i (by omega))
      · rw [if_neg hps]
        exact ⟨h1, fun z => by cases z⟩
    · rw [if_neg hh]
      exact ⟨h1, h2⟩
theorem rt_ok {c : Nat → Int32} {len : Nat} (hl : len ≤ 120) : (rtX c len).2.1 ≤ len ∧ ((rtX c len).1 = true → (rtX c len).2.2.1 ≤ 30 ∧ ∀ i, i < (rtX c len).2.2.1 → GR (rtX c len).2.2.2 i) := by
  unfold rtX
  by_cases h0 : len = 0
  · rw [if_pos h0]
    exact ⟨Nat.zero_le _, fun _ => ⟨Nat.zero_le _, fun i hi => absurd hi (Nat.not_lt_zero i)⟩⟩
  · rw [if_neg h0]
    have h1 := tx_ok (c := c) hl 120 ((inX c len 0).1, (inX c len 0).2.1, 1, appX 0 (fun _ _ => 0) (row (nI (inX c len 0).2.2.1) ((inX c len 0).2.2.2 0) ((inX c len 0).2.2.2 1) ((inX c len 0).2.2.2 2) 0)) (in_le hl (by omega)) (fun hok => by
      have h5 := in_ge (c := c) (pos := 0) hok (by omega)
      refine ⟨by show 4 * 1 ≤ (inX c len 0).2.1 + 1; omega, fun i hi => ?_⟩
      have hi2 : i = 0 := by
        have : i < 1 := hi
        omega
      subst hi2
      exact GR_in (by omega) hok)
    refine ⟨h1.1, fun hok => ?_⟩
    obtain ⟨h2, h3⟩ := h1.2 hok
    exact ⟨by omega, h3⟩
