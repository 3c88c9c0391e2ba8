/-! PURE 6: chains that grow; liveness and reachability, as numbers -/
theorem cnt_mono : ∀ (n : Nat) (P Q : Nat → Bool), (∀ i, i < n → P i = true → Q i = true) → cnt n P ≤ cnt n Q := by
  intro n P Q hh
  induction n with
  | zero => exact Nat.le_refl _
  | succ n ih =>
    have h1 := ih (fun i hi => hh i (by omega))
    have h2 := hh n (by omega)
    simp only [cnt]
    by_cases hp : P n = true
    · rw [if_pos hp, if_pos (h2 hp)]
      omega
    · rw [if_neg hp]
      omega
theorem cnt_strict : ∀ (n : Nat) (P Q : Nat → Bool), (∀ i, i < n → P i = true → Q i = true) → (∃ i, i < n ∧ P i ≠ Q i) → cnt n P < cnt n Q := by
  intro n P Q hh hx
  induction n with
  | zero =>
    obtain ⟨i, hi, _⟩ := hx
    omega
  | succ n ih =>
    have h0 := cnt_mono n P Q (fun i hi => hh i (by omega))
    have h2 := hh n (by omega)
    simp only [cnt]
    by_cases hp : P n = Q n
    · have h3 : ∃ i, i < n ∧ P i ≠ Q i := by
        obtain ⟨i, hi, hne⟩ := hx
        by_cases hin : i = n
        · subst hin
          exact absurd hp hne
        · exact ⟨i, by omega, hne⟩
      have h4 := ih (fun i hi => hh i (by omega)) h3
      rw [hp]
      omega
    · by_cases hq : P n = true
      · exact absurd (hq.trans (h2 hq).symm) hp
      · rw [Bool.not_eq_true] at hq
        have hq2 : Q n = true := by
          cases hc : Q n
          · exact absurd (hq.trans hc.symm) hp
          · rfl
        rw [hq, hq2, if_neg (by decide), if_pos rfl]
        omega
/-- a chain of sets that grows, and stays where it once stayed, stays after n - c steps -/
theorem chain (n : Nat) (S : Nat → Nat → Bool) (hg : ∀ r i, i < n → S r i = true → S (r + 1) i = true) (hs : ∀ r, (∀ i, i < n → S r i = S (r + 1) i) → ∀ i, i < n → S (r + 1) i = S (r + 2) i) (c : Nat) (hc : c ≤ cnt n (S 0)) : ∀ i, i < n → S (n - c) i = S (n - c + 1) i := by
  have h1 : ∀ r, (∀ i, i < n → S r i = S (r + 1) i) ∨ c + r < cnt n (S (r + 1)) := by
    intro r
    induction r with
    | zero =>
      by_cases hx : ∃ i, i < n ∧ S 0 i ≠ S 1 i
      · have := cnt_strict n _ _ (hg 0) hx
        exact Or.inr (by omega)
      · refine Or.inl fun i hi => ?_
        by_cases he : S 0 i = S 1 i
        · exact he
        · exact absurd ⟨i, hi, he⟩ hx
    | succ r ih =>
      rcases ih with h2 | h2
      · exact Or.inl (hs r h2)
      · by_cases hx : ∃ i, i < n ∧ S (r + 1) i ≠ S (r + 2) i
        · have := cnt_strict n _ _ (hg (r + 1)) hx
          exact Or.inr (by show c + (r + 1) < cnt n (S (r + 1 + 1)); have h9 : cnt n (S (r + 1)) < cnt n (S (r + 1 + 1)) := this; omega)
        · refine Or.inl fun i hi => ?_
          by_cases he : S (r + 1) i = S (r + 2) i
          · exact he
          · exact absurd ⟨i, hi, he⟩ hx
  rcases h1 (n - c) with h2 | h2
  · exact h2
  · have := cnt_le n (S (n - c + 1))
    omega
/-! bits -/
def bt (x : Int32) (b : Nat) : Bool := x.toBitVec.getLsbD b
theorem bt_or (x y : Int32) (b : Nat) : bt (x ||| y) b = (bt x b || bt y b) := by
  unfold bt
  rw [Int32.toBitVec_or, BitVec.getLsbD_or]
theorem bt_and (x y : Int32) (b : Nat) : bt (x &&& y) b = (bt x b && bt y b) := by
  unfold bt
  rw [Int32.toBitVec_and, BitVec.getLsbD_and]
theorem bt_0 (b : Nat) : bt 0 b = false := by
  unfold bt
  show (0 : BitVec 32).getLsbD b = false
  exact BitVec.getLsbD_zero
theorem bt_ext {x y : Int32} (hh : ∀ b, b < 32 → bt x b = bt y b) : x = y := by
  apply Int32.toBitVec_inj.mp
  exact BitVec.eq_of_getLsbD_eq hh
/-! liveness: one place, one round, many rounds -/
def thX (X : Nat → Nat → Int32) (k : Nat) (l : Int32) : Int32 := rdX X k ||| (l &&& (wrX X k ^^^ (-1)))
def ltX (X : Nat → Nat → Int32) (k : Nat) : Nat := (X k 3).toNatClampNeg
def lvX (X : Nat → Nat → Int32) (l : Nat → Int32) (k : Nat) : Int32 :=
  if slX X k = true then 0
  else if kBr (kx X k) = true then
    (if kCo (kx X k) = true then
      (rdX X k ||| thX X (k + 1) (l (ltX X k))) ||| (if X k 4 = nI 1 then l (k + 2) else thX X (k + 1) (l (k + 2)))
     else rdX X k ||| thX X (k + 1) (l (ltX X k)))
  else if kx X k = 11 then 0
  else thX X k (l (k + 1))
/-- the places below j, from the top down -/
def lrX (X : Nat → Nat → Int32) : Nat → (Nat → Int32) → Nat → Int32
  | 0, l => l
  | j + 1, l => lrX X j (upd l j (lvX X l j))
def lnX (X : Nat → Nat → Int32) (n : Nat) (z : Nat → Int32) : Nat → Nat → Int32
  | 0 => z
  | r + 1 => lrX X n (lnX X n z r)
def leL (n b : Nat) (l l' : Nat → Int32) : Prop := ∀ i, i ≤ n → bt (l i) b = true → bt (l' i) b = true
theorem lv_mono {X : Nat → Nat → Int32} {n k b : Nat} {l l' : Nat → Int32} (hk : k < n) (ht : kBr (kx X k) = true → ltX X k ≤ n ∧ k + 2 ≤ n) (hl : leL n b l l') : bt (lvX X l k) b = true → bt (lvX X l' k) b = true := by
  unfold lvX
  split
  · exact id
  · split
    · rename_i hb
      obtain ⟨h1, h2⟩ := ht hb
      have q1 := hl _ h1
      have q2 := hl _ h2
      unfold thX
      split
      · split
        · simp only [bt_or, bt_and, Bool.or_eq_true, Bool.and_eq_true]
          intro h3
          rcases h3 with (h3 | h3 | h3) | h3
          · exact Or.inl (Or.inl h3)
          · exact Or.inl (Or.inr (Or.inl h3))
          · exact Or.inl (Or.inr (Or.inr ⟨q1 h3.1, h3.2⟩))
          · exact Or.inr (q2 h3)
        · simp only [bt_or, bt_and, Bool.or_eq_true, Bool.and_eq_true]
          intro h3
          rcases h3 with (h3 | h3 | h3) | (h3 | h3)
          · exact Or.inl (Or.inl h3)
          · exact Or.inl (Or.inr (Or.inl h3))
          · exact Or.inl (Or.inr (Or.inr ⟨q1 h3.1, h3.2⟩))
          · exact Or.inr (Or.inl h3)
          · exact Or.inr (Or.inr ⟨q2 h3.1, h3.2⟩)
      · simp only [bt_or, bt_and, Bool.or_eq_true, Bool.and_eq_true]
        intro h3
        rcases h3 with h3 | h3 | h3
        · exact Or.inl h3
        · exact Or.inr (Or.inl h3)
        · exact Or.inr (Or.inr ⟨q1 h3.1, h3.2⟩)
    · split
      · exact id
      · have q1 := hl (k + 1) (by omega)
        unfold thX
        simp only [bt_or, bt_and, Bool.or_eq_true, Bool.and_eq_true]
        intro h3
        rcases h3 with h3 | h3
        · exact Or.inl h3
        · exact Or.inr ⟨q1 h3.1, h3.2⟩
/-- where the targets lead, and what follows a branch -/
def VF (n : Nat) (X : Nat → Nat → Int32) : Prop := ∀ k, k < n → kBr (kx X k) = true → ltX X k ≤ n ∧ k + 2 ≤ n
theorem upd_self (f : Nat → Int32) (a : Nat) : upd f a (f a) = f := by
  funext j
  rw [upd_eq]
  split
  · rename_i hh
    rw [hh]
  · rfl
theorem lr_mono {X : Nat → Nat → Int32} {n b : Nat} (hv : VF n X) : ∀ j, j ≤ n → ∀ l l', leL n b l l' → leL n b (lrX X j l) (lrX X j l') := by
  intro j
  induction j with
  | zero => exact fun _ l l' hl => hl
  | succ j ih =>
    intro hj l l' hl
    refine ih (by omega) _ _ ?_
    intro i hi
    rw [upd_eq, upd_eq]
    by_cases hij : i = j
    · rw [if_pos hij, if_pos hij]
      exact lv_mono (by omega) (hv j (by omega)) hl
    · rw [if_neg hij, if_neg hij]
      exact hl i hi
theorem lr_out {X : Nat → Nat → Int32} {i : Nat} : ∀ j, j ≤ i → ∀ l, lrX X j l i = l i := by
  intro j
  induction j with
  | zero => exact fun _ _ => rfl
  | succ j ih =>
    intro hj l
    show lrX X j _ i = _
    rw [ih (by omega), upd_eq, if_neg (by omega)]
theorem lr_same {X : Nat → Nat → Int32} {n : Nat} (hv : VF n X) {l l' : Nat → Int32} (hl : ∀ i, i ≤ n → l i = l' i) : ∀ i, i ≤ n → lrX X n l i = lrX X n l' i := by
  intro i hi
  apply bt_ext
  intro b _
  have h1 := lr_mono (b := b) hv n (Nat.le_refl n) l l' (fun j hj h2 => by rw [← hl j hj]; exact h2) i hi
  have h2 := lr_mono (b := b) hv n (Nat.le_refl n) l' l (fun j hj h2 => by rw [hl j hj]; exact h2) i hi
  cases ha : bt (lrX X n l i) b
  · cases hb : bt (lrX X n l' i) b
    · rfl
    · rw [h2 hb] at ha
      cases ha
  · exact (h1 ha).symm
section
variable {X : Nat → Nat → Int32} {n : Nat} {z z' : Nat → Int32}
theorem ln_same (hv : VF n X) (hz : ∀ i, i ≤ n → z i = z' i) : ∀ r i, i ≤ n → lnX X n z r i = lnX X n z' r i := by
  intro r
  induction r with
  | zero => exact hz
  | succ r ih => exact lr_same hv ih
theorem ln_out : ∀ r i, n ≤ i → lnX X n z r i = z i := by
  intro r
  induction r with
  | zero => exact fun _ _ => rfl
  | succ r ih =>
    intro i hi
    show lrX X n _ i = _
    rw [lr_out n hi, ih i hi]
theorem ln_grow (hv : VF n X) (hz : ∀ i, i ≤ n → z i = 0) (b : Nat) : ∀ r, leL n b (lnX X n z r) (lnX X n z (r + 1)) := by
  intro r
  induction r with
  | zero =>
    intro i hi h1
    have h2 : bt (z i) b = true := h1
    rw [hz i hi, bt_0] at h2
    cases h2
  | succ r ih => exact lr_mono hv n (Nat.le_refl n) _ _ ih
theorem ln_fix (hv : VF n X) (hz : ∀ i, i ≤ n → z i = 0) : lnX X n z (n + 1) = lnX X n z n := by
  funext i
  by_cases hi : n ≤ i
  · rw [ln_out _ i hi, ln_out _ i hi]
  · apply bt_ext
    intro b _
    have hc := chain n (fun r i => bt (lnX X n z r i) b) (fun r i hi => ln_grow hv hz b r i (by omega)) (fun r hr => by
      have h1 : leL n b (lnX X n z (r + 1)) (lnX X n z r) := by
        intro j hj
        by_cases hjn : j < n
        · rw [← hr j hjn]
          exact id
        · rw [ln_out _ j (by omega), ln_out _ j (by omega)]
          exact id
      have h2 : leL n b (lnX X n z (r + 2)) (lnX X n z (r + 1)) := lr_mono hv n (Nat.le_refl n) _ _ h1
      have h3 : leL n b (lnX X n z (r + 1)) (lnX X n z (r + 2)) := ln_grow hv hz b (r + 1)
      intro j hj
      show bt (lnX X n z (r + 1) j) b = bt (lnX X n z (r + 2) j) b
      have h4 := h2 j (by omega)
      have h5 := h3 j (by omega)
      cases ha : bt (lnX X n z (r + 1) j) b
      · cases hb : bt (lnX X n z (r + 2) j) b
        · rfl
        · rw [h4 hb] at ha
          cases ha
      · exact (h5 ha).symm) 0 (Nat.zero_le _) i (by omega)
    exact hc.symm
theorem ln_stay {r : Nat} (hr : lnX X n z (r + 1) = lnX X n z r) : ∀ d, lnX X n z (r + d) = lnX X n z r := by
  intro d
  induction d with
  | zero => rfl
  | succ d ih =>
    show lrX X n (lnX X n z (r + d)) = _
    rw [ih]
    exact hr
/-- does a place change in a round -/
def grX (X : Nat → Nat → Int32) : Nat → (Nat → Int32) → Bool
  | 0, _ => false
  | j + 1, l => (!decide (lvX X l j = l j)) || grX X j (upd l j (lvX X l j))
theorem gr_f : ∀ j (l : Nat → Int32), grX X j l = false → lrX X j l = l := by
  intro j
  induction j with
  | zero => exact fun _ _ => rfl
  | succ j ih =>
    intro l hh
    simp only [grX, Bool.or_eq_false_iff, Bool.not_eq_false', decide_eq_true_eq] at hh
    have h2 := ih _ hh.2
    show lrX X j (upd l j (lvX X l j)) = l
    rw [h2, hh.1, upd_self]
theorem gr_b : ∀ j (l : Nat → Int32), lrX X j l = l → grX X j l = false := by
  intro j
  induction j with
  | zero => exact fun _ _ => rfl
  | succ j ih =>
    intro l hh
    have h1 : lvX X l j = l j := by
      have h2 := congrFun hh j
      have h3 : lrX X j (upd l j (lvX X l j)) j = l j := h2
      rw [lr_out j (Nat.le_refl j), upd_eq, if_pos rfl] at h3
      exact h3
    have h4 : lrX X j (upd l j (lvX X l j)) = l := hh
    rw [h1, upd_self] at h4
    simp only [grX, h1, upd_self, decide_true, Bool.not_true, Bool.false_or]
    exact ih l h4
end
/-- what is live before i -/
def lvAt (X : Nat → Nat → Int32) (n i : Nat) : Int32 := lnX X n (fun _ => 0) n i
