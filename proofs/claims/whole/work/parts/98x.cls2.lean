/-! PURE 71: sources that were read, forms that were expanded, the past -/
theorem apd_lt {Y X : Nat → Nat → Int32} {n i : Nat} (hi : i < n) : ∀ m, apdX Y n X m i = X i := by
  intro m
  induction m with
  | zero => rfl
  | succ m ih =>
    show appX (n + m) (apdX Y n X m) _ i = _
    rw [app_lt (by omega)]
    exact ih
theorem apd_ge {Y X : Nat → Nat → Int32} {n : Nat} : ∀ m j, j < m → apdX Y n X m (n + j) = fun w => if w < 5 then row (Y j 0) (Y j 1) (Y j 2) (if kBr (kx Y j) = true then nI n + Y j 3 else Y j 3) 0 w else 0 := by
  intro m
  induction m with
  | zero => exact fun j hj => absurd hj (Nat.not_lt_zero j)
  | succ m ih =>
    intro j hj
    show appX (n + m) (apdX Y n X m) _ (n + j) = _
    by_cases h1 : j = m
    · subst h1
      funext w
      unfold appX
      rw [if_pos rfl]
    · rw [app_lt (by omega)]
      exact ih j (by omega)
theorem kx_of {X Y : Nat → Nat → Int32} {i j : Nat} (hh : X i 0 = Y j 0) : kx X i = kx Y j := by
  unfold kx
  rw [hh]
theorem le7 {v : Int32} {s : Int32} (hg : GV s v) (hs : ¬ s = nI 110) (hle : v ≤ nI 7) : ∃ a, v = nI a ∧ a < 8 := by
  by_cases h45 : s = nI 45
  · exact ⟨0, hg.1 h45, by omega⟩
  · obtain ⟨a, ha, h1⟩ := hg.2 h45
    rcases h1 with h1 | ⟨h2, _⟩
    · rw [h1] at hle
      refine ⟨a, h1, ?_⟩
      refine Classical.byContradiction fun z => nI_ge (a := 7) (b := a) (by omega) (by omega) hle
    · exact absurd h2 hs
/-- the numbers of an instruction that is in range -/
def GS (m : Nat) (X : Nat → Nat → Int32) (i : Nat) : Prop := (X i 0 = nI (kx X i) ∧ kx X i < 12) ∧ (∃ a b, X i 1 = nI a ∧ a < 8 ∧ X i 2 = nI b ∧ b < 8) ∧ (kRC (kx X i) = true → ∃ c, X i 3 = nI c ∧ c < 8) ∧ (kBr (kx X i) = true → ∃ t, X i 3 = nI t ∧ t ≤ m) ∧ (-100 < (X i 3).toInt ∧ (X i 3).toInt < 100)
theorem GS_of {m i : Nat} {X : Nat → Nat → Int32} (hm : m ≤ 30) (hg : GR X i) (hr : irI X m i = true) : GS m X i := by
  obtain ⟨⟨hk0, hk⟩, hv, _⟩ := hg
  rw [irI_eq hk, Bool.and_eq_true, Bool.and_eq_true, decide_eq_true_eq, decide_eq_true_eq] at hr
  obtain ⟨hc, h1, h2⟩ := hr
  have v0 := hv 0 (by omega)
  have v1 := hv 1 (by omega)
  have v2 := hv 2 (by omega)
  have n0 : ¬ (fL (kx X i)).getD 0 0 = nI 110 := by
    rcases twelve hk with h | h | h | h | h | h | h | h | h | h | h | h <;> rw [h] <;> decide
  have n1 : ¬ (fL (kx X i)).getD 1 0 = nI 110 := by
    rcases twelve hk with h | h | h | h | h | h | h | h | h | h | h | h <;> rw [h] <;> decide
  obtain ⟨a, ha1, ha2⟩ := le7 v0 n0 h1
  obtain ⟨b, hb1, hb2⟩ := le7 v1 n1 h2
  refine ⟨⟨hk0, hk⟩, ⟨a, b, ha1, ha2, hb1, hb2⟩, fun z => ?_, fun z => ?_, ?_⟩
  · have hs : (fL (kx X i)).getD 2 0 = nI 114 := by
      rcases twelve hk with h | h | h | h | h | h | h | h | h | h | h | h <;> rw [h] at z ⊢ <;> first | rfl | (exact absurd z (by decide))
    unfold ctB at hc
    rw [hs, decide_eq_true_eq] at hc
    rw [hs] at v2
    exact le7 v2 (by decide) hc
  · have hs : (fL (kx X i)).getD 2 0 = nI 116 := by
      rcases twelve hk with h | h | h | h | h | h | h | h | h | h | h | h <;> rw [h] at z ⊢ <;> first | rfl | (exact absurd z (by decide))
    unfold ctB at hc
    rw [hs, decide_eq_true_eq] at hc
    rw [hs] at v2
    obtain ⟨t, ht, h3⟩ := v2.2 (by decide)
    rcases h3 with h3 | ⟨h4, _⟩
    · have hgt : gtX m (nI 116) = nI m := rfl
      rw [h3, hgt] at hc
      refine ⟨t, h3, ?_⟩
      refine Classical.byContradiction fun z => nI_ge (a := m) (b := t) (by omega) (by omega) hc
    · exact absurd h4 (by decide)
  · by_cases h45 : (fL (kx X i)).getD 2 0 = nI 45
    · have h5 : X i 3 = nI 0 := v2.1 h45
      rw [h5]
      decide
    · obtain ⟨t, ht, h3⟩ := v2.2 h45
      have ht2 := nI_toInt (show t < 2 ^ 31 by omega)
      have hn : ∀ t, t < 100 → -100 < (-(nI t)).toInt ∧ (-(nI t)).toInt < 100 := by decide +kernel
      rcases h3 with h3 | ⟨_, h3⟩
      · have h5 : X i 3 = nI t := h3
        rw [h5, ht2]
        omega
      · have h5 : X i 3 = -(nI t) := h3
        rw [h5]
        exact hn t ht
theorem irB_at {X : Nat → Nat → Int32} {m : Nat} (hr : irB X m = true) : ∀ i, i < m → irI X m i = true := by
  intro i hi
  have := (alB_iff m 0).mp hr i (Nat.zero_le i) (by omega)
  exact this
theorem SG_apd {Y X : Nat → Nat → Int32} {n m : Nat} (hn : n + m ≤ 30) (hx : SG n X) (hy : ∀ i, i < m → GS m Y i) : SG (n + m) (apdX Y n X m) := by
  obtain ⟨⟨v1, ⟨v2, v3⟩, v4⟩, v5⟩ := hx
  have hcase : ∀ i, i < n + m → (i < n ∧ apdX Y n X m i = X i) ∨ (∃ j, j < m ∧ i = n + j ∧ apdX Y n X m i 0 = Y j 0 ∧ apdX Y n X m i 1 = Y j 1 ∧ apdX Y n X m i 2 = Y j 2 ∧ apdX Y n X m i 3 = if kBr (kx Y j) = true then nI n + Y j 3 else Y j 3) := by
    intro i hi
    by_cases h1 : i < n
    · exact Or.inl ⟨h1, apd_lt h1 m⟩
    · refine Or.inr ⟨i - n, by omega, by omega, ?_⟩
      have h2 := apd_ge (Y := Y) (X := X) (n := n) m (i - n) (by omega)
      rw [show n + (i - n) = i by omega] at h2
      rw [h2]
      exact ⟨rfl, rfl, rfl, rfl⟩
  have nbr : ∀ k, kRC k = true → kBr k = false := by
    intro k hk
    unfold kRC at hk
    unfold kBr
    simp only [Bool.and_eq_true, Nat.ble_eq] at hk
    cases h9 : Nat.ble 8 k
    · rfl
    · rw [Nat.ble_eq] at h9
      omega
  have ht : ∀ j, j < m → kBr (kx Y j) = true → ∃ t, nI n + Y j 3 = nI t ∧ t ≤ n + m := by
    intro j hj hb
    obtain ⟨t, h1, h2⟩ := (hy j hj).2.2.2.1 hb
    exact ⟨n + t, by rw [h1, nI_add], by omega⟩
  refine ⟨⟨fun i hi => ?_, ⟨fun i hi => ?_, fun i hi hk => ?_⟩, fun i hi hk => ?_⟩, fun i hi => ?_⟩
  · rcases hcase i hi with ⟨h1, h2⟩ | ⟨j, h1, h2, e0, _⟩
    · unfold kx
      rw [h2]
      exact v1 i h1
    · rw [kx_of e0, e0]
      exact (hy j h1).1
  · rcases hcase i hi with ⟨h1, h2⟩ | ⟨j, h1, h2, e0, e1, e2, e3⟩
    · rw [h2]
      exact v2 i h1
    · rw [e1, e2]
      exact (hy j h1).2.1
  · rcases hcase i hi with ⟨h1, h2⟩ | ⟨j, h1, h2, e0, e1, e2, e3⟩
    · have e9 : kx (apdX Y n X m) i = kx X i := by
        unfold kx
        rw [h2]
      rw [e9] at hk
      rw [h2]
      exact v3 i h1 hk
    · rw [kx_of e0] at hk
      rw [e3, nbr _ hk, if_neg (by decide)]
      exact (hy j h1).2.2.1 hk
  · rcases hcase i hi with ⟨h1, h2⟩ | ⟨j, h1, h2, e0, e1, e2, e3⟩
    · have e9 : kx (apdX Y n X m) i = kx X i := by
        unfold kx
        rw [h2]
      rw [e9] at hk
      rw [h2]
      obtain ⟨t, h3, h4⟩ := v4 i h1 hk
      exact ⟨t, h3, by omega⟩
    · rw [kx_of e0] at hk
      rw [e3, if_pos hk]
      exact ht j h1 hk
  · rcases hcase i hi with ⟨h1, h2⟩ | ⟨j, h1, h2, e0, e1, e2, e3⟩
    · rw [h2]
      exact v5 i h1
    · rw [e3]
      by_cases hb : kBr (kx Y j) = true
      · rw [if_pos hb]
        obtain ⟨t, h3, h4⟩ := ht j h1 hb
        rw [h3, nI_toInt (by omega)]
        omega
      · rw [if_neg hb]
        exact (hy j h1).2.2.2.2
theorem eo_mono (S : Nat → Nat → Int32) : ∀ i j, i ≤ j → eoX S i ≤ eoX S j := by
  intro i j hij
  induction hij with
  | refl => exact Nat.le_refl _
  | step _ ih =>
    rename_i m _
    have := eoX_succ S m
    have h2 : eoX S m ≤ eoX S (m + 1) := by
      rw [this]
      omega
    exact Nat.le_trans ih h2
def exR (S : Nat → Nat → Int32) (i : Nat) : Nat → Int32 := fun w => if w < 5 then row (S i 0) (S i 1) (S i 2) (if kBr (kx S i) = true then nI (eoX S (S i 3).toNatClampNeg) else S i 3) 0 w else 0
def exZ : Nat → Int32 := fun w => if w < 5 then row 0 0 0 0 0 w else 0
theorem ex_at (S : Nat → Nat → Int32) : ∀ j e, e < eoX S j → (∃ i, i < j ∧ e = eoX S i ∧ expX S j e = exR S i) ∨ (∃ i, i < j ∧ kBr (kx S i) = true ∧ e = eoX S i + 1 ∧ expX S j e = exZ) := by
  intro j
  induction j with
  | zero =>
    intro e he
    exact absurd he (Nat.not_lt_zero e)
  | succ j ih =>
    intro e he
    have hs := eoX_succ S j
    unfold expX
    by_cases hb : kBr (kx S j) = true
    · rw [if_pos hb] at hs ⊢
      by_cases h1 : e = eoX S j + 1
      · refine Or.inr ⟨j, by omega, hb, h1, ?_⟩
        subst h1
        funext w
        unfold appX
        rw [if_pos rfl]
        rfl
      · rw [app_lt (by omega)]
        by_cases h2 : e = eoX S j
        · refine Or.inl ⟨j, by omega, h2, ?_⟩
          subst h2
          funext w
          unfold appX exR
          rw [if_pos rfl, if_pos hb]
        · rw [app_lt (by omega)]
          rcases ih e (by omega) with ⟨i, h3, h4⟩ | ⟨i, h3, h4⟩
          · exact Or.inl ⟨i, by omega, h4⟩
          · exact Or.inr ⟨i, by omega, h4⟩
    · rw [if_neg hb] at hs ⊢
      by_cases h2 : e = eoX S j
      · refine Or.inl ⟨j, by omega, h2, ?_⟩
        subst h2
        funext w
        unfold appX exR
        rw [if_pos rfl, if_neg hb]
      · rw [app_lt (by omega)]
        rcases ih e (by omega) with ⟨i, h3, h4⟩ | ⟨i, h3, h4⟩
        · exact Or.inl ⟨i, by omega, h4⟩
        · exact Or.inr ⟨i, by omega, h4⟩
theorem WF_exp {S : Nat → Nat → Int32} {sn : Nat} (hn : sn ≤ 30) (hs : SG sn S) : eoX S sn ≤ 60 ∧ WF (eoX S sn) (expX S sn) := by
  obtain ⟨⟨v1, ⟨v2, v3⟩, v4⟩, v5⟩ := hs
  have hle := eoX_le S sn
  have hz : kx (fun _ => exZ) 0 = 0 := by decide
  have kR : ∀ e i, expX S sn e = exR S i → kx (expX S sn) e = kx S i := by
    intro e i h1
    unfold kx
    rw [h1]
    rfl
  have kZ : ∀ e, expX S sn e = exZ → kx (expX S sn) e = 0 := by
    intro e h1
    unfold kx
    rw [h1]
    decide
  have hT : ∀ i, i < sn → kBr (kx S i) = true → ∃ t, t ≤ sn ∧ S i 3 = nI t ∧ exR S i 3 = nI (eoX S t) := by
    intro i hi hb
    obtain ⟨t, h1, h2⟩ := v4 i hi hb
    refine ⟨t, h2, h1, ?_⟩
    show (if kBr (kx S i) = true then nI (eoX S (S i 3).toNatClampNeg) else S i 3) = _
    rw [if_pos hb, h1, nI_clamp (by omega)]
  have hnx : ∀ i, i < sn → kBr (kx S i) = true → eoX S i + 1 < eoX S sn ∧ expX S sn (eoX S i + 1) = exZ := by
    intro i hi hb
    have h1 := eoX_succ S i
    rw [if_pos hb] at h1
    have h2 := eo_mono S (i + 1) sn (by omega)
    refine ⟨by omega, ?_⟩
    rcases ex_at S sn (eoX S i + 1) (by omega) with ⟨i', h3, h4, h5⟩ | ⟨i', h3, h4, h5, h6⟩
    · by_cases h7 : i' ≤ i
      · have := eo_mono S i' i h7
        omega
      · have := eo_mono S (i + 1) i' (by omega)
        omega
    · exact h6
  refine ⟨by omega, fun e he => ?_, fun e he hb => ?_, fun e he hb => ?_, fun e he => ?_, fun e he hb => ?_, fun e he => ?_, fun e he => ⟨fun hk => ?_, ?_⟩⟩
  · rcases ex_at S sn e he with ⟨i, h1, h2, h3⟩ | ⟨i, h1, h2, h3, h4⟩
    · rw [kR e i h3, h3]
      exact v1 i h1
    · rw [kZ e h4, h4]
      exact ⟨rfl, by omega⟩
  · rcases ex_at S sn e he with ⟨i, h1, h2, h3⟩ | ⟨i, h1, h2, h3, h4⟩
    · rw [kR e i h3] at hb
      obtain ⟨t, q1, q2, q3⟩ := hT i h1 hb
      rw [h3]
      exact ⟨eoX S t, q3, eo_mono S t sn q1⟩
    · rw [kZ e h4] at hb
      exact absurd hb (by decide)
  · rcases ex_at S sn e he with ⟨i, h1, h2, h3⟩ | ⟨i, h1, h2, h3, h4⟩
    · rw [kR e i h3] at hb
      rw [h2]
      exact (hnx i h1 hb).1
    · rw [kZ e h4] at hb
      exact absurd hb (by decide)
  · rcases ex_at S sn e he with ⟨i, h1, h2, h3⟩ | ⟨i, h1, h2, h3, h4⟩
    · rw [h3]
      exact Or.inl rfl
    · rw [h4]
      exact Or.inl rfl
  · rcases ex_at S sn e he with ⟨i, h1, h2, h3⟩ | ⟨i, h1, h2, h3, h4⟩
    · rw [kR e i h3] at hb
      have := (hnx i h1 hb).2
      rw [h2, kZ _ this]
      exact ⟨by decide, by decide⟩
    · rw [kZ e h4] at hb
      exact absurd hb (by decide)
  · rcases ex_at S sn e he with ⟨i, h1, h2, h3⟩ | ⟨i, h1, h2, h3, h4⟩
    · rw [h3]
      exact v2 i h1
    · rw [h4]
      exact ⟨0, 0, rfl, by omega, rfl, by omega⟩
  · rcases ex_at S sn e he with ⟨i, h1, h2, h3⟩ | ⟨i, h1, h2, h3, h4⟩
    · rw [kR e i h3] at hk
      have hb : ¬ kBr (kx S i) = true := by
        intro z
        unfold kRC at hk
        unfold kBr at z
        simp only [Bool.and_eq_true, Nat.ble_eq] at hk z
        omega
      have h5 : exR S i 3 = S i 3 := if_neg hb
      rw [h3, h5]
      exact v3 i h1 hk
    · rw [kZ e h4] at hk
      exact absurd hk (by decide)
  · rcases ex_at S sn e he with ⟨i, h1, h2, h3⟩ | ⟨i, h1, h2, h3, h4⟩
    · by_cases hb : kBr (kx S i) = true
      · obtain ⟨t, q1, q2, q3⟩ := hT i h1 hb
        have := eo_mono S t sn q1
        rw [h3, q3, nI_toInt (by omega)]
        omega
      · have h5 : exR S i 3 = S i 3 := if_neg hb
        rw [h3, h5]
        exact v5 i h1
    · rw [h4]
      decide
/-! the past -/
def hsH (m : Nat) (H : HTy) (n : Nat) (X : Nat → Nat → Int32) : HTy := fun k => if m = 8 then (if k < 7 then H (k + 1) else (n, X)) else (if k = m then (n, X) else H k)
theorem xM_cg {n : Nat} {g g' : Nat → Int32} (hn : n ≤ 60) (hg : ∀ j, j ≤ 300 → g j = g' j) : xM n g = xM n g' := by
  funext i w
  show (if i < n ∧ w < 5 then g (1 + 5 * i + w) else 0) = (if i < n ∧ w < 5 then g' (1 + 5 * i + w) else 0)
  by_cases hh : i < n ∧ w < 5
  · rw [if_pos hh, if_pos hh, hg _ (by omega)]
  · rw [if_neg hh, if_neg hh]
theorem ps_H {ρ : Nat → Nat → Int32} {m n : Nat} {H : HTy} (hm : m ≤ 8) (hn : n ≤ 60) (h0 : ρ 53 0 = nI n) (hH : ∀ k, k < m → (H k).1 ≤ 60 ∧ ρ 54 (301 * k) = nI (H k).1 ∧ xM (H k).1 (fun j => ρ 54 (301 * k + j)) = (H k).2) : ∀ k, k < psN m → psR ρ m (301 * k) = nI (hsH m H n (xM n (ρ 53)) k).1 ∧ xM (hsH m H n (xM n (ρ 53)) k).1 (fun j => psR ρ m (301 * k + j)) = (hsH m H n (xM n (ρ 53)) k).2 := by
  intro k hk
  unfold psN at hk
  unfold psR hsH
  by_cases h8 : m = 8
  · subst h8
    rw [if_pos rfl] at hk
    simp only [if_true]
    by_cases hk7 : k < 7
    · rw [if_pos hk7]
      have q := hH (k + 1) (by omega)
      have e1 : ∀ j, j ≤ 300 → cpy (ρ 53) (cpy (ρ 54) (ρ 54) 301 0 2107) 0 2107 301 (301 * k + j) = ρ 54 (301 * (k + 1) + j) := by
        intro j hj
        rw [cpy_eq, if_neg (by omega), cpy_eq, if_pos (by omega)]
        congr 1
        omega
      refine ⟨?_, ?_⟩
      · have := e1 0 (by omega)
        rw [Nat.add_zero, Nat.add_zero] at this
        rw [this]
        exact q.2.1
      · rw [← q.2.2]
        exact xM_cg q.1 e1
    · rw [if_neg hk7]
      have hk8 : k = 7 := by omega
      subst hk8
      have e1 : ∀ j, j ≤ 300 → cpy (ρ 53) (cpy (ρ 54) (ρ 54) 301 0 2107) 0 2107 301 (301 * 7 + j) = ρ 53 j := by
        intro j hj
        rw [cpy_eq, if_pos (by omega)]
        rw [show 0 + (301 * 7 + j - 2107) = j by omega]
      refine ⟨?_, ?_⟩
      · have := e1 0 (by omega)
        rw [Nat.add_zero] at this
        rw [this]
        exact h0
      · exact xM_cg hn e1
  · rw [if_neg h8] at hk
    simp only [h8, if_false]
    by_cases hkm : k = m
    · subst hkm
      rw [if_pos rfl]
      have e1 : ∀ j, j ≤ 300 → cpy (ρ 53) (ρ 54) 0 (301 * k) 301 (301 * k + j) = ρ 53 j := by
        intro j hj
        rw [cpy_eq, if_pos (by omega)]
        congr 1
        omega
      refine ⟨?_, ?_⟩
      · have := e1 0 (by omega)
        rw [Nat.add_zero] at this
        rw [this]
        exact h0
      · exact xM_cg hn e1
    · rw [if_neg hkm]
      have q := hH k (by omega)
      have e1 : ∀ j, j ≤ 300 → cpy (ρ 53) (ρ 54) 0 (301 * m) 301 (301 * k + j) = ρ 54 (301 * k + j) := by
        intro j hj
        rw [cpy_eq, if_neg (by omega)]
      refine ⟨?_, ?_⟩
      · have := e1 0 (by omega)
        rw [Nat.add_zero] at this
        rw [this]
        exact q.2.1
      · rw [← q.2.2]
        exact xM_cg q.1 e1
