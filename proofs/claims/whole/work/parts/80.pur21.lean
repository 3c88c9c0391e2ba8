/-! PURE 21: the reader, its parts -/
def psX (c : Nat → Int32) (len pos : Nat) (x : Int32) : Bool := decide (pos < len) && decide (c pos = x)
def dgX (c : Nat → Int32) (len pos : Nat) : Bool := decide (pos < len) && (decide (¬ c pos < nI 48) && decide (¬ nI 57 < c pos))
def ltrX (x : Int32) : Bool := decide (¬ x < nI 97) && decide (¬ nI 122 < x)
def rlX (c : Nat → Int32) (len : Nat) : Nat → Nat → Nat
  | 0, e => e
  | d + 1, e => if ltrX (c e) = true then rlX c len d (e + 1) else e
def mtX (c : Nat → Int32) (len pos k : Nat) : Bool := Nat.beq (wL k).length (rlX c len (len - pos) pos - pos) && alB (fun i => decide (c (pos + i) = (wL k).getD i 0)) (wL k).length 0
def fkX (c : Nat → Int32) (len pos : Nat) : Nat → Nat → Option Nat
  | 0, _ => none
  | d + 1, k => if mtX c len pos k = true then some k else fkX c len pos d (k + 1)
def knX (c : Nat → Int32) (len pos : Nat) : Option Nat := fkX c len pos 12 0
/-- a number that is read: is it one, where it ends, its value -/
def nuX (c : Nat → Int32) (len pos : Nat) (neg : Bool) : Bool × Nat × Int32 :=
  let p1 := if (neg && psX c len pos (nI 45)) = true then pos + 1 else pos
  if dgX c len p1 = true then
    (let v := if dgX c len (p1 + 1) = true then (nI 10 * (c p1 - nI 48) + c (p1 + 1)) - nI 48 else c p1 - nI 48
     (true, (if dgX c len (p1 + 1) = true then p1 + 2 else p1 + 1), if (neg && psX c len pos (nI 45)) = true then -v else v))
  else (false, p1, 0)
/-- a reader's object p, its letters, its program -/
def RD (h : AH) (p pr len pos : Nat) (num : Int32) (c : Nat → Int32) : Prop := hget h p = some (oO 9 [aD (p + 1), aI (nI len), aI (nI pos), aI num, aD pr]) ∧ hget h (p + 1) = some (oI 1 120 c) ∧ len ≤ 120 ∧ pos ≤ len
section
variable {sc : SC} {h h' : AH} {p pr len pos i j k n s e : Nat} {num x x1 x2 x3 : Int32} {c : Nat → Int32} {S : Nat → Prop} {w : List Int32} {v3 v4 : AV}
theorem RD.f0 (g : RD h p pr len pos num c) : getF sc h (aD p) 9 0 = some (aD (p + 1)) := getF_D g.1 rfl
theorem RD.f1 (g : RD h p pr len pos num c) : getF sc h (aD p) 9 1 = some (aI (nI len)) := getF_D g.1 rfl
theorem RD.f2 (g : RD h p pr len pos num c) : getF sc h (aD p) 9 2 = some (aI (nI pos)) := getF_D g.1 rfl
theorem RD.f3 (g : RD h p pr len pos num c) : getF sc h (aD p) 9 3 = some (aI num) := getF_D g.1 rfl
theorem RD.f4 (g : RD h p pr len pos num c) : getF sc h (aD p) 9 4 = some (aD pr) := getF_D g.1 rfl
theorem RD.ok (g : RD h p pr len pos num c) : rOK sc h (aD p) 9 = true := rOK_D g.1
theorem RD.ld (g : RD h p pr len pos num c) (hj : j < len) : ldI sc h (fun t => t == 1) (aD (p + 1)) (nI j) = some (c j) := ldI_D g.2.1 rfl (by have := g.2.2.1; omega) (by omega)
theorem RD.keep (g : RD h p pr len pos num c) (hf : Fr S h h') (h0 : ¬ S p) (h1 : ¬ S (p + 1)) : RD h' p pr len pos num c := ⟨(hf.2.2.1 _ h0).trans g.1, (hf.2.2.1 _ h1).trans g.2.1, g.2.2⟩
theorem RD.p2 (g : RD h p pr len pos num c) (hk : k ≤ len) : ∃ h', putF h p 9 2 0 (aI (nI k)) = some h' ∧ RD h' p pr len k num c ∧ Fr (fun x => x = p) h h' := by
  refine ⟨hset h p (oO 9 [aD (p + 1), aI (nI len), aI (nI k), aI num, aD pr]), ?_, ⟨hget_set g.1, ?_, g.2.2.1, hk⟩, fr_set g.1 rfl⟩
  · rw [putF_D g.1 (show 2 < 5 by decide) rfl]
    rfl
  · rw [hget_ne (by omega)]
    exact g.2.1
theorem RD.p3 (g : RD h p pr len pos num c) (x : Int32) : ∃ h', putF h p 9 3 0 (aI x) = some h' ∧ RD h' p pr len pos x c ∧ Fr (fun x => x = p) h h' := by
  refine ⟨hset h p (oO 9 [aD (p + 1), aI (nI len), aI (nI pos), aI x, aD pr]), ?_, ⟨hget_set g.1, ?_, g.2.2.1, g.2.2.2⟩, fr_set g.1 rfl⟩
  · rw [putF_D g.1 (show 3 < 5 by decide) rfl]
    rfl
  · rw [hget_ne (by omega)]
    exact g.2.1
theorem c_X7_passes (g : RD h p pr len pos num c) (x : Int32) : ∃ h', Call sc n_X7_passes [aD p, aI x] h = some (.inl (some (aI (zI (psX c len pos x)))), h') ∧ RD h' p pr len (if psX c len pos x = true then pos + 1 else pos) num c ∧ Fr (fun x => x = p) h h' := by
  have h1 := g.2.2.1
  have h2 := g.2.2.2
  unfold psX
  by_cases hp : pos < len
  · have h3 : ¬ nI len ≤ nI pos := nI_ge hp (by omega)
    by_cases hc : c pos = x
    · obtain ⟨h', e1, e2, e3⟩ := g.p2 (k := pos + 1) (by omega)
      refine ⟨h', ?_, ?_, e3⟩
      · simp only [c0_X7_passes, e_X7_passes_0, e_X7_passes_4, e_X7_passes_8, e_X7_passes_11, e_X7_passes_15, e_X7_passes_19, e_X7_passes_20, e_X7_passes_24, e_X7_passes_26, e_X7_passes_31, e_X7_passes_36, g.f0, g.f1, g.f2, g.ld hp, h3, hc, e1, hp, decide_true, Bool.true_and, bO_some, bF_I, bF_D, bF_C, bC_v, pk_mul, nI_add, Option.toList, List.cons_append, List.nil_append, zI_0, if_true, if_false, eq_self, not_true_eq_false, not_false_eq_true]
        rfl
      · simp only [hp, hc, decide_true, Bool.true_and, if_true]
        exact e2
    · refine ⟨h, ?_, ?_, Fr.rfl⟩
      · simp only [c0_X7_passes, e_X7_passes_0, e_X7_passes_4, e_X7_passes_8, e_X7_passes_11, e_X7_passes_15, e_X7_passes_19, e_X7_passes_20, e_X7_passes_24, e_X7_passes_26, e_X7_passes_31, e_X7_passes_36, g.f0, g.f1, g.f2, g.ld hp, h3, hc, hp, decide_true, decide_false, Bool.true_and, bO_some, bF_I, bF_D, bF_C, bC_v, pk_mul, nI_add, Option.toList, List.cons_append, List.nil_append, zI_0, if_true, if_false, eq_self, not_true_eq_false, not_false_eq_true]
        rfl
      · simp only [hp, hc, decide_true, decide_false, Bool.true_and, reduceCtorEq, if_false]
        exact g
  · have h3 : nI len ≤ nI pos := nI_le (by omega) (by omega)
    refine ⟨h, ?_, ?_, Fr.rfl⟩
    · simp only [c0_X7_passes, e_X7_passes_0, e_X7_passes_4, e_X7_passes_8, e_X7_passes_11, e_X7_passes_15, e_X7_passes_19, e_X7_passes_20, e_X7_passes_24, e_X7_passes_26, e_X7_passes_31, e_X7_passes_36, g.f1, g.f2, h3, hp, decide_false, Bool.false_and, bO_some, bF_I, bF_D, bF_C, bC_v, pk_mul, nI_add, Option.toList, List.cons_append, List.nil_append, zI_0, if_true, if_false, eq_self, not_true_eq_false, not_false_eq_true]
      rfl
    · simp only [hp, decide_false, Bool.false_and, reduceCtorEq, if_false]
      exact g
theorem c_X7_isDigitNext (g : RD h p pr len pos num c) : Call sc n_X7_isDigitNext [aD p] h = some (.inl (some (aI (zI (dgX c len pos)))), h) := by
  have h1 := g.2.2.1
  have h2 := g.2.2.2
  unfold dgX
  by_cases hp : pos < len
  · have h3 : ¬ nI len ≤ nI pos := nI_ge hp (by omega)
    by_cases ha : c pos < nI 48
    · simp only [c0_X7_isDigitNext, e_X7_isDigitNext_0, e_X7_isDigitNext_4, e_X7_isDigitNext_8, e_X7_isDigitNext_11, e_X7_isDigitNext_15, e_X7_isDigitNext_19, e_X7_isDigitNext_20, e_X7_isDigitNext_25, e_X7_isDigitNext_29, e_X7_isDigitNext_33, e_X7_isDigitNext_34, e_X7_isDigitNext_39, e_X7_isDigitNext_43, e_X7_isDigitNext_44, g.f0, g.f1, g.f2, g.ld hp, h3, ha, hp, decide_true, decide_false, Bool.true_and, Bool.false_and, bO_some, bF_I, bF_D, bF_C, bC_v, pk_mul, nI_add, Option.toList, List.cons_append, List.nil_append, zI_0, if_true, if_false, eq_self, not_true_eq_false, not_false_eq_true]
      exact bI_t rfl _
    · by_cases hb : nI 57 < c pos
      · simp only [c0_X7_isDigitNext, e_X7_isDigitNext_0, e_X7_isDigitNext_4, e_X7_isDigitNext_8, e_X7_isDigitNext_11, e_X7_isDigitNext_15, e_X7_isDigitNext_19, e_X7_isDigitNext_20, e_X7_isDigitNext_25, e_X7_isDigitNext_29, e_X7_isDigitNext_33, e_X7_isDigitNext_34, e_X7_isDigitNext_39, e_X7_isDigitNext_43, e_X7_isDigitNext_44, g.f0, g.f1, g.f2, g.ld hp, h3, ha, hb, hp, decide_true, decide_false, Bool.true_and, Bool.false_and, bO_some, bF_I, bF_D, bF_C, bC_v, pk_mul, nI_add, Option.toList, List.cons_append, List.nil_append, zI_0, if_true, if_false, eq_self, not_true_eq_false, not_false_eq_true]
        exact bI_t rfl _
      · simp only [c0_X7_isDigitNext, e_X7_isDigitNext_0, e_X7_isDigitNext_4, e_X7_isDigitNext_8, e_X7_isDigitNext_11, e_X7_isDigitNext_15, e_X7_isDigitNext_19, e_X7_isDigitNext_20, e_X7_isDigitNext_25, e_X7_isDigitNext_29, e_X7_isDigitNext_33, e_X7_isDigitNext_34, e_X7_isDigitNext_39, e_X7_isDigitNext_43, e_X7_isDigitNext_44, g.f0, g.f1, g.f2, g.ld hp, h3, ha, hb, hp, decide_true, decide_false, Bool.true_and, Bool.false_and, bO_some, bF_I, bF_D, bF_C, bC_v, pk_mul, nI_add, Option.toList, List.cons_append, List.nil_append, zI_0, if_true, if_false, eq_self, not_true_eq_false, not_false_eq_true]
        exact bI_t rfl _
  · have h3 : nI len ≤ nI pos := nI_le (by omega) (by omega)
    simp only [c0_X7_isDigitNext, e_X7_isDigitNext_0, e_X7_isDigitNext_4, e_X7_isDigitNext_8, e_X7_isDigitNext_11, e_X7_isDigitNext_15, e_X7_isDigitNext_19, e_X7_isDigitNext_20, e_X7_isDigitNext_25, e_X7_isDigitNext_29, e_X7_isDigitNext_33, e_X7_isDigitNext_34, e_X7_isDigitNext_39, e_X7_isDigitNext_43, e_X7_isDigitNext_44, g.f1, g.f2, h3, hp, decide_false, Bool.false_and, bO_some, bF_I, bF_D, bF_C, bC_v, pk_mul, nI_add, Option.toList, List.cons_append, List.nil_append, zI_0, if_true, if_false, eq_self, not_true_eq_false, not_false_eq_true]
    exact bI_t rfl _
theorem l_isWord (g : RD h p pr len pos num c) (gs : KS sc s w) (hse : k + w.length ≤ len) : ∀ d i, i + d = w.length → Run sc n_X7_isWord 15 [aD p, aC s, aI (nI k), aI (nI (k + w.length)), aI (nI (k + i))] none [] h = some (.inl (some (aI (zI (alB (fun i => decide (c (k + i) = w.getD i 0)) d i)))), h) := by
  have h1 := g.2.2.1
  intro d
  induction d with
  | zero =>
    intro i hi
    rw [e_X7_isWord_15, if_pos (nI_le (by omega) (by omega)), e_X7_isWord_47]
    rfl
  | succ d ih =>
    intro i hi
    have h3 : ¬ nI (k + w.length) ≤ nI (k + i) := nI_ge (by omega) (by omega)
    have e1 := c_J0_charAt (h := h) gs (show i < w.length by omega)
    rw [e_X7_isWord_15]
    simp only [e_X7_isWord_21, e_X7_isWord_25, e_X7_isWord_28, e_X7_isWord_36, g.f0, g.ld (show k + i < len by omega), pk_sub (show k ≤ k + i by omega), Nat.add_sub_cancel_left, bI_t gs.ok, e1, h3, bO_some, bF_I, bF_D, bF_C, bC_v, pk_mul, nI_add, Option.toList, List.cons_append, List.nil_append, zI_0, if_true, if_false, eq_self, not_true_eq_false, not_false_eq_true]
    by_cases hh : c (k + i) = w.getD i 0
    · rw [if_pos hh, e_X7_isWord_41, nI_add, Nat.add_assoc, ih (i + 1) (by omega)]
      simp only [alB, decide_eq_true hh, Bool.true_and]
    · rw [if_neg hh, e_X7_isWord_39]
      simp only [alB, decide_eq_false hh, Bool.false_and]
      rfl
theorem c_X7_isWord (g : RD h p pr len pos num c) (gs : KS sc s w) (hk : k ≤ e) (he : e ≤ len) : Call sc n_X7_isWord [aD p, aC s, aI (nI k), aI (nI e)] h = some (.inl (some (aI (zI (Nat.beq w.length (e - k) && alB (fun i => decide (c (k + i) = w.getD i 0)) w.length 0)))), h) := by
  have h1 := g.2.2.1
  have h2 := gs.lt
  simp only [c0_X7_isWord, e_X7_isWord_0, e_X7_isWord_4, bI_t gs.ok, c_J0_length gs, pk_sub hk, bO_some, bF_I, bF_D, bF_C, bC_v, pk_mul, nI_add, Option.toList, List.cons_append, List.nil_append]
  by_cases hh : w.length = e - k
  · rw [if_pos (by rw [hh]), show Nat.beq w.length (e - k) = true from by rw [hh]; exact Nat.beq_refl _, Bool.true_and, e_X7_isWord_12]
    have h3 : e = k + w.length := by omega
    subst h3
    exact l_isWord g gs he w.length 0 (by omega)
  · rw [if_neg (fun z => hh (nI_inj (by omega) (by omega) z)), beq_f hh, Bool.false_and, e_X7_isWord_10]
    rfl
theorem rl_ge (c : Nat → Int32) (len : Nat) : ∀ d e, e ≤ rlX c len d e ∧ rlX c len d e ≤ e + d := by
  intro d
  induction d with
  | zero => exact fun e => ⟨Nat.le_refl _, Nat.le_refl _⟩
  | succ d ih =>
    intro e
    unfold rlX
    split
    · have := ih (e + 1)
      omega
    · omega
theorem l_rk1 (g : RD h p pr len pos num c) : ∀ d e, e + d = len → Run sc n_X7_readKind 7 [aD p, aI (nI pos), aI (nI e), v3] none [] h = Run sc n_X7_readKind 43 [aD p, aI (nI pos), aI (nI (rlX c len d e)), v3] none [] h := by
  have h1 := g.2.2.1
  intro d
  induction d with
  | zero =>
    intro e he
    have h3 : nI len ≤ nI e := nI_le (by omega) (by omega)
    simp only [e_X7_readKind_7, e_X7_readKind_12, g.f1, h3, bO_some, bF_I, bF_D, bF_C, bC_v, pk_mul, nI_add, Option.toList, List.cons_append, List.nil_append, zI_0, if_true, if_false, eq_self, not_true_eq_false, not_false_eq_true]
    rfl
  | succ d ih =>
    intro e he
    have h3 : ¬ nI len ≤ nI e := nI_ge (by omega) (by omega)
    rw [e_X7_readKind_7]
    unfold rlX ltrX
    simp only [e_X7_readKind_12, e_X7_readKind_15, e_X7_readKind_19, e_X7_readKind_21, g.f0, g.f1, g.ld (show e < len by omega), h3, bO_some, bF_I, bF_D, bF_C, bC_v, pk_mul, nI_add, Option.toList, List.cons_append, List.nil_append, zI_0, if_true, if_false, eq_self, not_true_eq_false, not_false_eq_true]
    by_cases ha : c e < nI 97
    · simp only [ha, decide_false, Bool.false_and, zI_0, if_true, if_false, eq_self, not_true_eq_false, not_false_eq_true, reduceCtorEq]
    · simp only [ha, decide_true, Bool.true_and, e_X7_readKind_26, e_X7_readKind_30, e_X7_readKind_32, g.f0, g.ld (show e < len by omega), bO_some, bF_I, bF_D, bF_C, bC_v, pk_mul, nI_add, Option.toList, List.cons_append, List.nil_append, zI_0, if_true, if_false, eq_self, not_true_eq_false, not_false_eq_true]
      by_cases hb : nI 122 < c e
      · simp only [hb, decide_false, zI_0, if_true, if_false, eq_self, not_true_eq_false, not_false_eq_true, reduceCtorEq]
      · simp only [hb, decide_true, e_X7_readKind_37, bO_some, bF_I, bF_D, bF_C, bC_v, pk_mul, nI_add, Option.toList, List.cons_append, List.nil_append, zI_0, if_true, if_false, eq_self, not_true_eq_false, not_false_eq_true]
        exact ih (e + 1) (by omega)
theorem l_rk2 (g : RD h p pr len pos num c) (he : e = rlX c len (len - pos) pos) : ∀ d k, k + d = 12 → ∃ h', Run sc n_X7_readKind 45 [aD p, aI (nI pos), aI (nI e), aI (nI k)] none [] h = some (.inl (some (aI (enc (fkX c len pos d k)))), h') ∧ RD h' p pr len (match fkX c len pos d k with | some _ => e | none => pos) num c ∧ Fr (fun x => x = p) h h' := by
  have h1 := g.2.2.1
  have h2 := g.2.2.2
  have h4 := rl_ge c len (len - pos) pos
  have hl : lenA sc h (aC 13) = some 12 := rfl
  intro d
  induction d with
  | zero =>
    intro k hk
    have : k = 12 := by omega
    subst this
    refine ⟨h, ?_, g, Fr.rfl⟩
    simp only [e_X7_readKind_45, e_X7_readKind_50, e_X7_readKind_83, hl, bO_some, bF_I, bF_D, bF_C, bC_v, pk_mul, nI_add, Option.toList, List.cons_append, List.nil_append, show nI 12 ≤ nI 12 from by decide, zI_0, if_true, if_false, eq_self, not_true_eq_false, not_false_eq_true]
    rfl
  | succ d ih =>
    intro k hk
    have h3 : ¬ nI 12 ≤ nI k := nI_ge (by omega) (by omega)
    have e1 := c_X7_isWord (sc := sc) g (KS_w (show k < 12 by omega)) (show pos ≤ e by omega) (show e ≤ len by omega)
    have hm : mtX c len pos k = (Nat.beq (wL k).length (e - pos) && alB (fun i => decide (c (pos + i) = (wL k).getD i 0)) (wL k).length 0) := by
      rw [he]
      rfl
    rw [← hm] at e1
    rw [e_X7_readKind_45]
    simp only [e_X7_readKind_50, e_X7_readKind_53, e_X7_readKind_59, e_X7_readKind_62, e_X7_readKind_67, hl, h3, kinds_at (show k < 12 by omega), kf_word (show k < 12 by omega), bI_t g.ok, e1, bO_some, bF_I, bF_D, bF_C, bC_v, pk_mul, nI_add, Option.toList, List.cons_append, List.nil_append, zI_0, if_true, if_false, eq_self, not_true_eq_false, not_false_eq_true]
    by_cases hh : mtX c len pos k = true
    · obtain ⟨h', q1, q2, q3⟩ := g.p2 (k := e) (by omega)
      refine ⟨h', ?_, ?_, q3⟩
      · simp only [fkX, hh, e_X7_readKind_70, e_X7_readKind_75, q1, bO_some, bF_I, bF_D, bF_C, bC_v, pk_mul, nI_add, Option.toList, List.cons_append, List.nil_append, zI_0, if_true, if_false, eq_self, not_true_eq_false, not_false_eq_true, reduceCtorEq]
        rfl
      · simp only [fkX, hh, if_true]
        exact q2
    · rw [Bool.not_eq_true] at hh
      obtain ⟨h', q1, q2, q3⟩ := ih (k + 1) (by omega)
      refine ⟨h', ?_, ?_, q3⟩
      · simp only [fkX, hh, e_X7_readKind_77, bO_some, bF_I, bF_D, bF_C, bC_v, pk_mul, nI_add, Option.toList, List.cons_append, List.nil_append, zI_0, if_true, if_false, eq_self, not_true_eq_false, not_false_eq_true, reduceCtorEq]
        exact q1
      · simp only [fkX, hh, reduceCtorEq, if_false]
        exact q2
theorem fk_ok {d : Nat} : ∀ k k', fkX c len pos d k = some k' → k ≤ k' ∧ k' < k + d ∧ mtX c len pos k' = true := by
  induction d with
  | zero =>
    intro k k' hh
    cases hh
  | succ d ih =>
    intro k k' hh
    unfold fkX at hh
    split at hh
    · rename_i h1
      have h2 : k = k' := Option.some.inj hh
      subst h2
      exact ⟨Nat.le_refl _, by omega, h1⟩
    · have := ih (k + 1) k' hh
      exact ⟨by omega, by omega, this.2.2⟩
theorem knd_ok (hh : knX c len pos = some k) (hp : pos ≤ len) : k < 12 ∧ rlX c len (len - pos) pos = pos + (wL k).length ∧ pos + (wL k).length ≤ len := by
  have h1 := fk_ok 0 k hh
  have h4 := rl_ge c len (len - pos) pos
  have h2 := h1.2.2
  unfold mtX at h2
  rw [Bool.and_eq_true] at h2
  have h3 := Nat.eq_of_beq_eq_true h2.1
  exact ⟨by omega, by omega, by omega⟩
theorem c_X7_readKind (g : RD h p pr len pos num c) : ∃ h', Call sc n_X7_readKind [aD p] h = some (.inl (some (aI (enc (knX c len pos)))), h') ∧ RD h' p pr len (match knX c len pos with | some k => pos + (wL k).length | none => pos) num c ∧ Fr (fun x => x = p) h h' := by
  have h2 := g.2.2.2
  obtain ⟨h', q1, q2, q3⟩ := l_rk2 (sc := sc) g rfl 12 0 rfl
  refine ⟨h', ?_, ?_, q3⟩
  · simp only [c0_X7_readKind, e_X7_readKind_0, e_X7_readKind_4, g.f2, bO_some, bF_I, bF_D, bF_C, bC_v, pk_mul, nI_add, Option.toList, List.cons_append, List.nil_append]
    rw [l_rk1 g (len - pos) pos (by omega), e_X7_readKind_43]
    exact q1
  · unfold knX
    cases hk : fkX c len pos 12 0 with
    | none =>
      rw [hk] at q2
      exact q2
    | some k =>
      rw [hk] at q2
      have h3 := (knd_ok hk h2).2.1
      show RD h' p pr len (pos + (wL k).length) num c
      rw [← h3]
      exact q2
end
