/-! PURE 9: what is reached -/
def nxB (X : Nat → Nat → Int32) (k i : Nat) : Bool := (kBr (kx X k) && Nat.beq i (ltX X k)) || ((kCo (kx X k) && Nat.beq i (k + 2)) || ((!kBr (kx X k) && !Nat.beq (kx X k) 11) && Nat.beq i (k + 1)))
def rcB (X : Nat → Nat → Int32) (k : Nat) (b : Nat → Bool) : Nat → Bool := fun i => b i || (b k && nxB X k i)
def rrB (X : Nat → Nat → Int32) : Nat → Nat → (Nat → Bool) → Nat → Bool
  | 0, _, b => b
  | d + 1, k, b => rrB X d (k + 1) (rcB X k b)
def rsB (X : Nat → Nat → Int32) (n : Nat) : Nat → Nat → Bool
  | 0 => fun i => Nat.beq i 0
  | r + 1 => rrB X n 0 (rsB X n r)
def leB (b c : Nat → Bool) : Prop := ∀ i, b i = true → c i = true
theorem leB_eq {b c : Nat → Bool} (h1 : leB b c) (h2 : leB c b) : b = c := by
  funext i
  cases hb : b i
  · cases hc : c i
    · rfl
    · rw [h2 i hc] at hb
      cases hb
  · exact (h1 i hb).symm
theorem rc_mono {X : Nat → Nat → Int32} {k : Nat} {b c : Nat → Bool} (hh : leB b c) : leB (rcB X k b) (rcB X k c) := by
  intro i
  unfold rcB
  simp only [Bool.or_eq_true, Bool.and_eq_true]
  rintro (h1 | h1)
  · exact Or.inl (hh i h1)
  · exact Or.inr ⟨hh k h1.1, h1.2⟩
theorem rc_grow {X : Nat → Nat → Int32} {k : Nat} {b : Nat → Bool} : leB b (rcB X k b) := by
  intro i hi
  unfold rcB
  rw [hi]
  rfl
theorem rr_mono {X : Nat → Nat → Int32} : ∀ d k (b c : Nat → Bool), leB b c → leB (rrB X d k b) (rrB X d k c) := by
  intro d
  induction d with
  | zero => exact fun _ _ _ hh => hh
  | succ d ih => exact fun k b c hh => ih (k + 1) _ _ (rc_mono hh)
theorem rr_grow {X : Nat → Nat → Int32} : ∀ d k (b : Nat → Bool), leB b (rrB X d k b) := by
  intro d
  induction d with
  | zero => exact fun _ _ _ hh => hh
  | succ d ih => exact fun k b i hi => ih (k + 1) _ i (rc_grow i hi)
theorem nx_le {X : Nat → Nat → Int32} {n k i : Nat} (hv : VF n X) (hk : k < n) (hx : nxB X k i = true) : i ≤ n := by
  unfold nxB at hx
  simp only [Bool.or_eq_true, Bool.and_eq_true, Nat.beq_eq] at hx
  rcases hx with ⟨h1, rfl⟩ | ⟨h1, rfl⟩ | ⟨_, rfl⟩
  · exact (hv k hk h1).1
  · refine (hv k hk ?_).2
    unfold kCo at h1
    unfold kBr
    simp only [Bool.and_eq_true, Nat.ble_eq] at h1 ⊢
    omega
  · omega
theorem rr_out {X : Nat → Nat → Int32} {n i : Nat} (hv : VF n X) (hi : n < i) : ∀ d k (b : Nat → Bool), k + d ≤ n → rrB X d k b i = b i := by
  intro d
  induction d with
  | zero => exact fun _ _ _ => rfl
  | succ d ih =>
    intro k b hk
    show rrB X d (k + 1) (rcB X k b) i = _
    rw [ih _ _ (by omega)]
    unfold rcB
    cases hx : nxB X k i
    · rw [Bool.and_false, Bool.or_false]
    · have := nx_le hv (by omega) hx
      omega
theorem rs_out {X : Nat → Nat → Int32} {n i : Nat} (hv : VF n X) (hi : n < i) : ∀ r, rsB X n r i = false := by
  intro r
  induction r with
  | zero =>
    show Nat.beq i 0 = false
    cases hc : Nat.beq i 0
    · rfl
    · have := Nat.eq_of_beq_eq_true hc
      omega
  | succ r ih =>
    show rrB X n 0 _ i = _
    rw [rr_out hv hi n 0 _ (by omega), ih]
theorem rs_grow {X : Nat → Nat → Int32} {n : Nat} (r : Nat) : leB (rsB X n r) (rsB X n (r + 1)) := rr_grow n 0 _
theorem cnt_pos : ∀ (n : Nat) (P : Nat → Bool), P 0 = true → 1 ≤ cnt (n + 1) P := by
  intro n P hp
  induction n with
  | zero =>
    simp only [cnt, hp, if_true]
    omega
  | succ n ih =>
    rw [cnt]
    omega
theorem rs_fix {X : Nat → Nat → Int32} {n : Nat} (hv : VF n X) : rsB X n (n + 1) = rsB X n n := by
  funext i
  by_cases hi : n < i
  · rw [rs_out hv hi, rs_out hv hi]
  · have hc := chain (n + 1) (rsB X n) (fun r i _ => rs_grow r i) (fun r hr i _ => by
      have h1 : rsB X n (r + 1) = rsB X n r := by
        funext j
        by_cases hj : n < j
        · rw [rs_out hv hj, rs_out hv hj]
        · exact (hr j (by omega)).symm
      show rsB X n (r + 1) i = rrB X n 0 (rsB X n (r + 1)) i
      rw [h1]
      exact (congrFun h1 i).symm) 1 (cnt_pos n _ rfl) i (by omega)
    exact hc.symm
theorem rs_stay {X : Nat → Nat → Int32} {n r : Nat} (hr : rsB X n (r + 1) = rsB X n r) : ∀ d, rsB X n (r + d) = rsB X n r := by
  intro d
  induction d with
  | zero => rfl
  | succ d ih =>
    show rrB X n 0 (rsB X n (r + d)) = _
    rw [ih]
    exact hr
def chB (X : Nat → Nat → Int32) (k : Nat) (b : Nat → Bool) : Bool := b k && ((kBr (kx X k) && !b (ltX X k)) || ((kCo (kx X k) && !(b (k + 2) || Nat.beq (k + 2) (ltX X k))) || ((!kBr (kx X k) && !Nat.beq (kx X k) 11) && !b (k + 1))))
def gB (X : Nat → Nat → Int32) : Nat → Nat → (Nat → Bool) → Bool
  | 0, _, _ => false
  | d + 1, k, b => chB X k b || gB X d (k + 1) (rcB X k b)
theorem kCo_kBr {k : Nat} (hh : kCo k = true) : kBr k = true := by
  unfold kCo at hh
  unfold kBr
  simp only [Bool.and_eq_true, Nat.ble_eq] at hh ⊢
  omega
theorem ch_f {X : Nat → Nat → Int32} {k : Nat} {b : Nat → Bool} (hh : chB X k b = false) : rcB X k b = b := by
  funext i
  unfold rcB
  unfold chB at hh
  cases hk : b k
  · rw [Bool.false_and, Bool.or_false]
  · rw [hk, Bool.true_and] at hh
    simp only [Bool.or_eq_false_iff, Bool.and_eq_false_iff, Bool.not_eq_false'] at hh
    cases hx : nxB X k i
    · rw [Bool.and_false, Bool.or_false]
    · unfold nxB at hx
      simp only [Bool.or_eq_true, Bool.and_eq_true, Nat.beq_eq, Bool.not_eq_true'] at hx
      obtain ⟨h1, h2, h3⟩ := hh
      rw [Bool.and_true, Bool.or_true]
      rcases hx with ⟨q1, rfl⟩ | ⟨q1, rfl⟩ | ⟨⟨q1, q2⟩, rfl⟩
      · rcases h1 with h1 | h1
        · rw [q1] at h1
          cases h1
        · exact h1.symm
      · rcases h2 with h2 | h2
        · rw [q1] at h2
          cases h2
        · simp only [Bool.or_eq_true, Nat.beq_eq] at h2
          rcases h2 with h2 | h2
          · exact h2.symm
          · rcases h1 with h1 | h1
            · rw [kCo_kBr q1] at h1
              cases h1
            · rw [h2]
              exact h1.symm
      · rcases h3 with h3 | h3
        · rcases h3 with h3 | h3
          · rw [q1] at h3
            cases h3
          · rw [q2] at h3
            cases h3
        · exact h3.symm
theorem ch_b {X : Nat → Nat → Int32} {k : Nat} {b : Nat → Bool} (hh : rcB X k b = b) : chB X k b = false := by
  cases hc : chB X k b
  · rfl
  · unfold chB at hc
    have hx : ∀ i, nxB X k i = true → b k = true → b i = true := by
      intro i h1 h2
      rw [← hh]
      unfold rcB
      rw [h1, h2]
      exact Bool.or_true _
    unfold nxB at hx
    simp only [Bool.or_eq_true, Bool.and_eq_true, Nat.beq_eq, Bool.not_eq_true'] at hx hc
    obtain ⟨h0, hc⟩ := hc
    rcases hc with ⟨q1, q2⟩ | ⟨q1, q2⟩ | ⟨q1, q2⟩
    · rw [hx _ (Or.inl ⟨q1, rfl⟩) h0] at q2
      cases q2
    · rw [Bool.or_eq_false_iff] at q2
      rw [hx _ (Or.inr (Or.inl ⟨q1, rfl⟩)) h0] at q2
      cases q2.1
    · rw [hx _ (Or.inr (Or.inr ⟨q1, rfl⟩)) h0] at q2
      cases q2
theorem g_f {X : Nat → Nat → Int32} : ∀ d k (b : Nat → Bool), gB X d k b = false → rrB X d k b = b := by
  intro d
  induction d with
  | zero => exact fun _ _ _ => rfl
  | succ d ih =>
    intro k b hh
    simp only [gB, Bool.or_eq_false_iff] at hh
    show rrB X d (k + 1) (rcB X k b) = b
    rw [ih _ _ hh.2, ch_f hh.1]
theorem g_b {X : Nat → Nat → Int32} : ∀ d k (b : Nat → Bool), rrB X d k b = b → gB X d k b = false := by
  intro d
  induction d with
  | zero => exact fun _ _ _ => rfl
  | succ d ih =>
    intro k b hh
    have h0 : rrB X d (k + 1) (rcB X k b) = b := hh
    have h1 : rcB X k b = b := by
      refine leB_eq (fun i hi => ?_) rc_grow
      rw [← h0]
      exact rr_grow d (k + 1) _ i hi
    rw [h1] at h0
    simp only [gB, ch_b h1, Bool.false_or, h1]
    exact ih _ _ h0
/-- how many entries that are no slots are not reached -/
def unX (X : Nat → Nat → Int32) (n : Nat) : Nat := cnt n (fun k => !slX X k && !rsB X n n k)
