/-! PURE 12: well-formed programs; a fill as numbers -/
def cpI (X : Nat → Nat → Int32) (i j : Nat) : Nat → Nat → Int32 := fun a w => if a = j then X i w else X a w
/-- what holds of every expanded form -/
def WF (n : Nat) (X : Nat → Nat → Int32) : Prop := VK n X ∧ VT n X ∧ VB n X ∧ (∀ i, i < n → X i 4 = nI 0 ∨ (X i 4 = nI 1 ∧ kCo (kx X i) = true)) ∧ (∀ i, i < n → kBr (kx X i) = true → kBr (kx X (i + 1)) = false ∧ ¬ kx X (i + 1) = 11) ∧ (∀ i, i < n → ∃ a b, X i 1 = nI a ∧ a < 8 ∧ X i 2 = nI b ∧ b < 8) ∧ (∀ i, i < n → (kRC (kx X i) = true → ∃ c, X i 3 = nI c ∧ c < 8) ∧ -100 < (X i 3).toInt ∧ (X i 3).toInt < 100)
def mvX (X : Nat → Nat → Int32) (n b way e : Nat) : Nat → Nat → Int32 := if way = 1 then ptX (ptX (cpI X e (b + 1)) b 3 (nI (e + 1))) b 4 (if kCo (kx X b) = true then nI 1 else nI 0) else dnX e (rmX e (ptX (cpI X e (b + 1)) b 4 (nI 0))) (n - 1)
def mvN (n way : Nat) : Nat := if way = 1 then n else n - 1
def mvB (b way : Nat) : Nat := if way = 0 then b - 1 else b
theorem cfK_br {k : Nat} (hh : cfK k = true) : kBr k = false ∧ ¬ k = 11 ∧ ¬ k = 0 ∧ kCo k = false := by
  unfold cfK at hh
  simp only [Bool.and_eq_true, Nat.ble_eq] at hh
  have h1 : k = 1 ∨ k = 2 ∨ k = 3 ∨ k = 4 ∨ k = 5 ∨ k = 6 ∨ k = 7 := by omega
  rcases h1 with rfl | rfl | rfl | rfl | rfl | rfl | rfl <;> decide
theorem bf_ok {X : Nat → Nat → Int32} {n b : Nat} : ∀ j e, bfX X n b j = some e → e < j ∧ cfK (kx X e) = true ∧ slX X e = false := by
  intro j
  induction j with
  | zero =>
    intro e hh
    cases hh
  | succ j ih =>
    intro e hh
    unfold bfX at hh
    split at hh
    · cases hh
    · rename_i h1
      split at hh
      · rename_i h2
        rw [Bool.and_eq_true] at h2
        rw [Bool.not_eq_true, Bool.or_eq_false_iff, Bool.or_eq_false_iff] at h1
        have h3 : j = e := Option.some.inj hh
        subst h3
        exact ⟨by omega, h2.1, h1.2.2⟩
      · split at hh
        · cases hh
        · have h4 := ih e hh
          exact ⟨by omega, h4.2⟩
theorem fd_ok {X : Nat → Nat → Int32} {n b way e : Nat} (hb : b < n) (hw : WF n X) (hk : kBr (kx X b) = true) (hh : fdX X n b way = some e) : e < n ∧ cfK (kx X e) = true ∧ (¬ way = 1 → slX X e = false) ∧ (way = 0 → e < b) := by
  unfold fdX at hh
  split at hh
  · rename_i h0
    unfold btX at hh
    split at hh
    · cases hh
    · have h1 := bf_ok b e hh
      exact ⟨by omega, h1.2.1, fun _ => h1.2.2, fun _ => h1.1⟩
  · rename_i h0
    split at hh
    · rename_i h1
      unfold atX at hh
      split at hh
      · rename_i h2
        have h3 : ltX X b = e := Option.some.inj hh
        subst h3
        exact ⟨h2.1, h2.2, fun z => absurd h1 z, fun z => absurd z h0⟩
      · cases hh
    · unfold ftX at hh
      split at hh
      · cases hh
      · rename_i h2
        split at hh
        · cases hh
        · rename_i h3
          split at hh
          · have h4 : b + 2 = e := Option.some.inj hh
            subst h4
            have h2' := Classical.not_not.mp h2
            have h3' := Classical.not_not.mp h3
            refine ⟨h2'.2, h3'.1, fun _ => ?_, fun z => absurd z h0⟩
            unfold slX
            rw [show b + 2 - 1 = b + 1 from rfl, (hw.2.2.2.2.1 b hb hk).1, Bool.and_false]
          · cases hh
theorem kx_pt {X : Nat → Nat → Int32} {i w k : Nat} {x : Int32} (hw : ¬ w = 0) : kx (ptX X i w x) k = kx X k := by
  unfold kx ptX
  rw [if_neg (fun z => hw z.2.symm)]
theorem kx_cp {X : Nat → Nat → Int32} {i j k : Nat} : kx (cpI X i j) k = if k = j then kx X i else kx X k := by
  unfold kx cpI
  split <;> rfl
theorem kx_rm {X : Nat → Nat → Int32} {e k : Nat} : kx (rmX e X) k = if k < e then kx X k else kx X (k + 1) := by
  unfold kx rmX
  split <;> rfl
theorem VK_cp {X : Nat → Nat → Int32} {n i j : Nat} (hv : VK n X) (hi : i < n) : VK n (cpI X i j) := by
  intro k hk
  unfold kx cpI
  split
  · exact hv i hi
  · exact hv k hk
theorem VK_pt {X : Nat → Nat → Int32} {n i w : Nat} {x : Int32} (hv : VK n X) (hw : ¬ w = 0) : VK n (ptX X i w x) := by
  intro k hk
  unfold kx ptX
  rw [if_neg (fun z => hw z.2.symm)]
  exact hv k hk
theorem pt_at {X : Nat → Nat → Int32} {i w i' w' : Nat} {x : Int32} : ptX X i w x i' w' = if i' = i ∧ w' = w then x else X i' w' := rfl
theorem cp_at {X : Nat → Nat → Int32} {i j a w : Nat} : cpI X i j a w = if a = j then X i w else X a w := rfl
theorem rm_at {X : Nat → Nat → Int32} {e i w : Nat} : rmX e X i w = if i < e then X i w else X (i + 1) w := rfl
/-- an instruction is copied into a slot, and the mark of the branch is set -/
theorem WF_cp {X : Nat → Nat → Int32} {n b e : Nat} (hw : WF n X) (hb : b < n) (hk : kBr (kx X b) = true) (he : e < n) (hc : cfK (kx X e) = true) (z : Int32) (hz : z = nI 0 ∨ (z = nI 1 ∧ kCo (kx X b) = true)) : WF n (ptX (cpI X e (b + 1)) b 4 z) := by
  obtain ⟨v1, v2, v3, v4, v5, v6, v7⟩ := hw
  have c1 := cfK_br hc
  have hk2 := v5 b hb hk
  have hx : ∀ i, kx (ptX (cpI X e (b + 1)) b 4 z) i = if i = b + 1 then kx X e else kx X i := fun i => by
    rw [kx_pt (by omega), kx_cp]
  refine ⟨VK_pt (VK_cp v1 he) (by omega), ?_, ?_, ?_, ?_, ?_, ?_⟩
  · intro i hi h1
    rw [hx] at h1
    rw [pt_at, if_neg (by omega), cp_at]
    split at h1
    · rw [c1.1] at h1
      cases h1
    · rename_i h2
      rw [if_neg h2]
      exact v2 i hi h1
  · intro i hi h1
    rw [hx] at h1
    split at h1
    · rw [c1.1] at h1
      cases h1
    · exact v3 i hi h1
  · intro i hi
    rw [hx, pt_at, cp_at]
    by_cases h1 : i = b
    · subst h1
      rw [if_pos ⟨rfl, rfl⟩, if_neg (by omega)]
      exact hz
    · rw [if_neg (by omega)]
      by_cases h2 : i = b + 1
      · rw [if_pos h2, if_pos h2]
        exact v4 e he
      · rw [if_neg h2, if_neg h2]
        exact v4 i hi
  · intro i hi h1
    rw [hx] at h1
    rw [hx]
    split at h1
    · rw [c1.1] at h1
      cases h1
    · by_cases h2 : i = b
      · rw [if_pos (by omega)]
        exact ⟨c1.1, c1.2.1⟩
      · rw [if_neg (by omega)]
        exact v5 i hi h1
  · intro i hi
    rw [pt_at, pt_at, if_neg (by omega), if_neg (by omega), cp_at, cp_at]
    by_cases h2 : i = b + 1
    · rw [if_pos h2, if_pos h2]
      exact v6 e he
    · rw [if_neg h2, if_neg h2]
      exact v6 i hi
  · intro i hi
    rw [hx, pt_at, if_neg (show ¬ (i = b ∧ 3 = 4) by omega), cp_at]
    by_cases h2 : i = b + 1
    · rw [if_pos h2, if_pos h2]
      exact v7 e he
    · rw [if_neg h2, if_neg h2]
      exact v7 i hi
theorem WF_tg {X : Nat → Nat → Int32} {n b t : Nat} (hw : WF n X) (hk : kBr (kx X b) = true) (ht : t ≤ n) (hn : n < 99) : WF n (ptX X b 3 (nI t)) := by
  obtain ⟨v1, v2, v3, v4, v5, v6, v7⟩ := hw
  have hx : ∀ i, kx (ptX X b 3 (nI t)) i = kx X i := fun i => kx_pt (by omega)
  refine ⟨VK_pt v1 (by omega), ?_, ?_, ?_, ?_, ?_, ?_⟩
  · intro i hi h1
    rw [hx] at h1
    rw [pt_at]
    split
    · exact ⟨t, rfl, ht⟩
    · exact v2 i hi h1
  · intro i hi h1
    rw [hx] at h1
    exact v3 i hi h1
  · intro i hi
    rw [hx, pt_at, if_neg (by omega)]
    exact v4 i hi
  · intro i hi h1
    rw [hx] at h1
    rw [hx]
    exact v5 i hi h1
  · intro i hi
    rw [pt_at, pt_at, if_neg (by omega), if_neg (by omega)]
    exact v6 i hi
  · intro i hi
    rw [hx, pt_at]
    split
    · rename_i h1
      rw [nI_toInt (by omega)]
      refine ⟨fun h2 => ?_, by omega, by omega⟩
      rw [h1.1] at h2
      unfold kBr at hk
      unfold kRC at h2
      simp only [Bool.and_eq_true, Nat.ble_eq] at hk h2
      omega
    · exact v7 i hi
theorem WF_rm {X : Nat → Nat → Int32} {n e : Nat} (hw : WF n X) (he : e < n) (hc : kBr (kx X e) = false) (hs : slX X e = false) (hn : n < 99) : WF (n - 1) (dnX e (rmX e X) (n - 1)) := by
  obtain ⟨v1, v2, v3, v4, v5, v6, v7⟩ := hw
  have hx : ∀ i, kx (dnX e (rmX e X) (n - 1)) i = if i < e then kx X i else kx X (i + 1) := fun i => by
    rw [kx_dn, kx_rm]
  have hy : ∀ i w, ¬ w = 3 → dnX e (rmX e X) (n - 1) i w = if i < e then X i w else X (i + 1) w := fun i w h1 => by
    unfold dnX
    rw [if_neg (fun z => h1 z.2.1), rm_at]
  have hb : ∀ i, i < n - 1 → kBr (kx (dnX e (rmX e X) (n - 1)) i) = true → ¬ i + 1 = e := by
    intro i hi h1 h2
    rw [hx, if_pos (by omega)] at h1
    unfold slX at hs
    rw [← h2, Nat.add_sub_cancel, h1, decide_eq_true (by omega)] at hs
    cases hs
  have hz : ∀ i, i < n - 1 → (kBr (kx (dnX e (rmX e X) (n - 1)) i) = true → ∃ t t', dnX e (rmX e X) (n - 1) i 3 = nI t' ∧ t' ≤ n - 1 ∧ (if i < e then X i 3 else X (i + 1) 3) = nI t ∧ t ≤ n) ∧ (¬ kBr (kx (dnX e (rmX e X) (n - 1)) i) = true → dnX e (rmX e X) (n - 1) i 3 = if i < e then X i 3 else X (i + 1) 3) := by
    intro i hi
    refine ⟨fun h1 => ?_, fun h1 => ?_⟩
    · have h2 : ∃ t, (if i < e then X i 3 else X (i + 1) 3) = nI t ∧ t ≤ n := by
        rw [hx] at h1
        split
        · rename_i h3
          rw [if_pos h3] at h1
          exact v2 i (by omega) h1
        · rename_i h3
          rw [if_neg h3] at h1
          exact v2 (i + 1) (by omega) h1
      obtain ⟨t, h3, h4⟩ := h2
      have h5 : kBr (kx (rmX e X) i) = true := by
        rw [kx_dn] at h1
        exact h1
      by_cases h6 : nI t ≤ nI e
      · refine ⟨t, t, ?_, ?_, h3, h4⟩
        · unfold dnX
          rw [rm_at, h3, if_neg (fun z => z.2.2.2 h6)]
        · have h7 : ¬ e < t := fun z => nI_ge z (by omega) h6
          omega
      · have h7 : e < t := by
          refine Classical.byContradiction fun z => h6 (nI_le (by omega) (by omega))
        refine ⟨t, t - 1, ?_, by omega, h3, h4⟩
        unfold dnX
        rw [rm_at, h3, if_pos ⟨hi, rfl, h5, h6⟩, pk_sub (by omega)]
    · unfold dnX
      rw [if_neg (fun z => h1 (by rw [kx_dn]; exact z.2.2.1)), rm_at]
  refine ⟨VK_dn (VK_rm v1), ?_, ?_, ?_, ?_, ?_, ?_⟩
  · intro i hi h1
    obtain ⟨t, t', h2, h3, _⟩ := (hz i hi).1 h1
    exact ⟨t', h2, h3⟩
  · intro i hi h1
    have h2 := hb i hi h1
    rw [hx] at h1
    split at h1
    · have := v3 i (by omega) h1
      omega
    · have := v3 (i + 1) (by omega) h1
      omega
  · intro i hi
    rw [hx, hy _ _ (by omega)]
    split
    · exact v4 i (by omega)
    · exact v4 (i + 1) (by omega)
  · intro i hi h1
    have h2 := hb i hi h1
    rw [hx] at h1
    rw [hx]
    split at h1
    · rename_i h3
      rw [if_pos (by omega)]
      exact v5 i (by omega) h1
    · rename_i h3
      rw [if_neg (by omega)]
      exact v5 (i + 1) (by omega) h1
  · intro i hi
    rw [hy _ _ (by omega), hy _ _ (by omega)]
    split
    · exact v6 i (by omega)
    · exact v6 (i + 1) (by omega)
  · intro i hi
    by_cases h1 : kBr (kx (dnX e (rmX e X) (n - 1)) i) = true
    · obtain ⟨t, t', h2, h3, _⟩ := (hz i hi).1 h1
      rw [h2, nI_toInt (by omega)]
      refine ⟨fun h4 => ?_, by omega, by omega⟩
      unfold kBr at h1
      unfold kRC at h4
      simp only [Bool.and_eq_true, Nat.ble_eq] at h1 h4
      omega
    · rw [(hz i hi).2 h1, hx]
      split
      · exact v7 i (by omega)
      · exact v7 (i + 1) (by omega)
