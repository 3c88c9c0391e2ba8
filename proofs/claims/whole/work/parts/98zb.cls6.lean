/-! PURE 75: the class's calls: the text, the initial values, the run -/
/-- what the reference and the law hold has been kept -/
def KP (e : Nat) (h h' : AH) : Prop := h'.2 = h.2 + e ∧ h.1.length ≤ h'.1.length ∧ ∀ p, 51 ≤ p → p < 73 → hget h' p = hget h p
section
variable {sc : SC} {h h' h'' : AH} {S : Nat → Prop} {e e' km ks len sn n ch : Nat} {c ini : Nat → Int32} {X SX : Nat → Nat → Int32} {H : HTy} {L : List Int32} {K : KTy} {V : VTy} {kp sv : Bool}
theorem KP.trans (a : KP e h h') (b : KP e' h' h'') : KP (e + e') h h'' := ⟨by rw [b.1, a.1]; omega, Nat.le_trans a.2.1 b.2.1, fun p h1 h2 => (b.2.2 p h1 h2).trans (a.2.2 p h1 h2)⟩
theorem LK.kps (a : LK SCl e h h') : KP e h h' := ⟨a.1, by rw [a.2.1]; exact Nat.le_refl _, fun p h1 h2 => a.2.2.1 p (by unfold SCl; omega)⟩
theorem KP.rfl : KP 0 h h := ⟨Eq.refl _, Nat.le_refl _, fun _ _ _ => Eq.refl _⟩
theorem KP.rh {φ : Nat → Int32} {ρ : Nat → Nat → Int32} (a : KP e h h') (g : RH h φ ρ) : RH h' φ ρ := ⟨Nat.le_trans g.1 a.2.1, (a.2.2 51 (by omega) (by omega)).trans g.2.1, fun q h1 h2 => (a.2.2 q (by omega) (by omega)).trans (g.2.2 q h1 h2)⟩
theorem KP.out (a : KP e h h') (g : OUT h) : OUT h' := ⟨⟨g.1.choose, (a.2.2 71 (by omega) (by omega)).trans g.1.choose_spec⟩, g.2.choose, (a.2.2 72 (by omega) (by omega)).trans g.2.choose_spec⟩
theorem k_write (g : CI h len c L sn SX n X ch H ini K V) (hn : n ≤ 60) (hw : WF n X) : ∃ h1, Call sc n_X9_write [aD 0] h = some (.inl (some (aI (nI (prT X n).length))), h1) ∧ CI h1 len c (prT X n) sn SX n X ch H ini K V ∧ KP 0 h h1 ∧ (prT X n).length ≤ 1200 ∧ ∀ c, c ∈ prT X n → AS c := by
  obtain ⟨km, ks, bo⟩ := g.bo
  obtain ⟨g1, ⟨w1, w2, w3⟩, g3, g4, g5, g6, g7⟩ := g
  obtain ⟨_, _, ⟨f, s1, s2⟩, _⟩ := id g4
  have hw' : WF n (xC n f) := by
    rw [s2]
    exact hw
  obtain ⟨h1, q1, q2, q3⟩ := c_X8_writeProgram (sc := sc) (p := 5) (q := 6) (r := 9) (Nr := 300) ⟨s1, by omega, by omega, by omega, by omega⟩ w1 hw'
  rw [s2] at q1 q2
  have lk : LK (fun p => p = 5 ∨ p = 6) 0 h h1 := LK.of q3
  have ok5 : rOK sc h (aD 5) 10 = true := w1.ok
  have has : ∀ c, c ∈ prT X n → AS c := by
    obtain ⟨b, _, _, _, _, z1⟩ := q2
    intro c hc
    obtain ⟨i, hi, rfl⟩ := List.getElem_of_mem hc
    have : AS ((prT X n).getD i 0) := (z1 i hi).2
    rw [List.getD_eq_getElem?_getD, List.getElem?_eq_getElem hi] at this
    exact this
  have hpl := prT_len hn hw n (Nat.le_refl n)
  refine ⟨h1, ?_, ⟨g1.lk lk (fun p _ _ => by first | omega | (dsimp only; omega)), ⟨q2, lk.2.1.trans w2, by rw [lk.2.2.2, lk.1]; omega⟩, g3.lk lk (fun p _ _ => by first | omega | (dsimp only; omega)), g4.lk lk (fun p _ _ => by first | omega | (dsimp only; omega)), g5.lk lk (by first | omega | (dsimp only; omega)), g6.lk lk (by first | omega | (dsimp only; omega)) (fun p _ _ => by first | omega | (dsimp only; omega)), g7.lk lk (fun p _ _ => by first | omega | (dsimp only; omega))⟩, (lk.mono (fun p z => by unfold SCl; first | omega | (dsimp only at z; omega))).kps, by omega, has⟩
  simp only [c0_X9_write, e_X9_write_0, e_X9_write_4, e_X9_write_8, e_X9_write_11, bo.f1, bo.f3, bO_some, bF_I, bF_D, bF_C, bC_v, pk_mul, nI_add, Option.toList, List.cons_append, List.nil_append, bI_t ok5, q1, zI_0, if_true, if_false, eq_self, not_true_eq_false, not_false_eq_true, reduceCtorEq]
theorem lt_IR {m : Nat} (hm : m < 2 ^ 30) (x : Int32) : IR m x ↔ (¬ x < 0 ∧ x < nI m) := by
  unfold IR
  rw [Int32.not_le]
theorem k_text (g : CI h len c L sn SX n X ch H ini K V) (hL : L.length ≤ 1200) (ha : ∀ c, c ∈ L → AS c) (x : Int32) : Call sc n_X9_text [aD 0, aI x] h = if cdTx L x = 0 then some (.inl (some (aI (L.getD x.toNatClampNeg 0))), h) else some (.inr 2, (h.1, h.2 + 1)) := by
  obtain ⟨km, ks, bo⟩ := g.bo
  obtain ⟨w1, w2, w3⟩ := g.2.1
  have f0 : getF sc h (aD 5) 10 0 = some (aD 6) := w1.f0
  have f1 : getF sc h (aD 5) 10 1 = some (aI (nI L.length)) := w1.f1
  unfold cdTx
  by_cases h1 : IR L.length x
  · rw [if_pos h1, if_pos rfl]
    obtain ⟨z1, z2⟩ := (lt_IR (by omega) x).mp h1
    obtain ⟨i, hi, rfl⟩ := has_ex (by omega) h1
    rw [nI_clamp (show i < 2 ^ 31 by omega)]
    have hr : ∀ r : Option Res, bI (retK (some FieldType.char) (L.getD i 0) = true) r = r := by
      intro r
      refine bI_t ?_ r
      obtain ⟨c, hc, h3⟩ := ha (L.getD i 0) (by
        rw [List.getD_eq_getElem?_getD, List.getElem?_eq_getElem hi]
        exact List.getElem_mem hi)
      rw [h3]
      exact (asc_b c hc).2.2.2
    simp only [c0_X9_text, e_X9_text_0, e_X9_text_4, e_X9_text_9, e_X9_text_12, e_X9_text_15, e_X9_text_25, e_X9_text_29, e_X9_text_32, e_X9_text_34, bO_some, bF_I, bF_D, bF_C, bC_v, pk_mul, nI_add, Option.toList, List.cons_append, List.nil_append, bo.f1, f0, f1, z1, z2, w1.ld hi, hr, zI_0, if_true, if_false, eq_self, not_true_eq_false, not_false_eq_true, reduceCtorEq]
  · rw [if_neg h1, if_neg (by decide)]
    by_cases z1 : x < 0
    · simp only [c0_X9_text, e_X9_text_0, e_X9_text_4, e_X9_text_9, e_X9_text_12, e_X9_text_15, e_X9_text_25, e_X9_text_29, e_X9_text_32, e_X9_text_34, bO_some, bF_I, bF_D, bF_C, bC_v, pk_mul, nI_add, Option.toList, List.cons_append, List.nil_append, z1, zI_0, if_true, if_false, eq_self, not_true_eq_false, not_false_eq_true, reduceCtorEq]
    · have z2 : ¬ x < nI L.length := fun z => h1 ((lt_IR (by omega) x).mpr ⟨z1, z⟩)
      simp only [c0_X9_text, e_X9_text_0, e_X9_text_4, e_X9_text_9, e_X9_text_12, e_X9_text_15, e_X9_text_25, e_X9_text_29, e_X9_text_32, e_X9_text_34, bO_some, bF_I, bF_D, bF_C, bC_v, pk_mul, nI_add, Option.toList, List.cons_append, List.nil_append, bo.f1, f1, z1, z2, zI_0, if_true, if_false, eq_self, not_true_eq_false, not_false_eq_true, reduceCtorEq]
theorem w_placeOf (b : Bool) (x : Int32) : Call sc n_X9_placeOf [aI (zI b), aI x] h = some (.inl (some (aI (enc (plX b x)))), h) := by
  cases b
  · rw [pl_f]
    by_cases h1 : IR 8 x
    · obtain ⟨z1, z2⟩ := (lt_IR (by omega) x).mp h1
      rw [if_pos h1]
      obtain ⟨i, hi, rfl⟩ := has_ex (by omega) h1
      simp only [c0_X9_placeOf, e_X9_placeOf_0, e_X9_placeOf_4, e_X9_placeOf_9, e_X9_placeOf_14, e_X9_placeOf_16, e_X9_placeOf_19, e_X9_placeOf_21, e_X9_placeOf_25, e_X9_placeOf_32, e_X9_placeOf_33, bO_some, bF_I, bF_D, bF_C, bC_v, pk_mul, nI_add, Option.toList, List.cons_append, List.nil_append, z1, z2, zI_0, if_true, if_false, eq_self, not_true_eq_false, not_false_eq_true, reduceCtorEq, enc_s, nI_clamp (show i < 2 ^ 31 by omega)]
    · rw [if_neg h1]
      by_cases z1 : x < 0
      · simp only [c0_X9_placeOf, e_X9_placeOf_0, e_X9_placeOf_4, e_X9_placeOf_9, e_X9_placeOf_14, e_X9_placeOf_16, e_X9_placeOf_19, e_X9_placeOf_21, e_X9_placeOf_25, e_X9_placeOf_32, e_X9_placeOf_33, bO_some, bF_I, bF_D, bF_C, bC_v, pk_mul, nI_add, Option.toList, List.cons_append, List.nil_append, z1, zI_0, if_true, if_false, eq_self, not_true_eq_false, not_false_eq_true, reduceCtorEq, enc_n]
      · have z2 : ¬ x < nI 8 := fun z => h1 ((lt_IR (by omega) x).mpr ⟨z1, z⟩)
        simp only [c0_X9_placeOf, e_X9_placeOf_0, e_X9_placeOf_4, e_X9_placeOf_9, e_X9_placeOf_14, e_X9_placeOf_16, e_X9_placeOf_19, e_X9_placeOf_21, e_X9_placeOf_25, e_X9_placeOf_32, e_X9_placeOf_33, bO_some, bF_I, bF_D, bF_C, bC_v, pk_mul, nI_add, Option.toList, List.cons_append, List.nil_append, z1, z2, zI_0, if_true, if_false, eq_self, not_true_eq_false, not_false_eq_true, reduceCtorEq, enc_n]
  · rw [pl_t]
    by_cases h1 : IR 16 x
    · obtain ⟨z1, z2⟩ := (lt_IR (by omega) x).mp h1
      rw [if_pos h1]
      obtain ⟨i, hi, rfl⟩ := has_ex (by omega) h1
      simp only [c0_X9_placeOf, e_X9_placeOf_0, e_X9_placeOf_4, e_X9_placeOf_9, e_X9_placeOf_14, e_X9_placeOf_16, e_X9_placeOf_19, e_X9_placeOf_21, e_X9_placeOf_25, e_X9_placeOf_32, e_X9_placeOf_33, bO_some, bF_I, bF_D, bF_C, bC_v, pk_mul, nI_add, Option.toList, List.cons_append, List.nil_append, z1, z2, zI_0, if_true, if_false, eq_self, not_true_eq_false, not_false_eq_true, reduceCtorEq, enc_s, nI_clamp (show i < 2 ^ 31 by omega)]
    · rw [if_neg h1]
      by_cases z1 : x < 0
      · simp only [c0_X9_placeOf, e_X9_placeOf_0, e_X9_placeOf_4, e_X9_placeOf_9, e_X9_placeOf_14, e_X9_placeOf_16, e_X9_placeOf_19, e_X9_placeOf_21, e_X9_placeOf_25, e_X9_placeOf_32, e_X9_placeOf_33, bO_some, bF_I, bF_D, bF_C, bC_v, pk_mul, nI_add, Option.toList, List.cons_append, List.nil_append, z1, zI_0, if_true, if_false, eq_self, not_true_eq_false, not_false_eq_true, reduceCtorEq, enc_n]
      · have z2 : ¬ x < nI 16 := fun z => h1 ((lt_IR (by omega) x).mpr ⟨z1, z⟩)
        simp only [c0_X9_placeOf, e_X9_placeOf_0, e_X9_placeOf_4, e_X9_placeOf_9, e_X9_placeOf_14, e_X9_placeOf_16, e_X9_placeOf_19, e_X9_placeOf_21, e_X9_placeOf_25, e_X9_placeOf_32, e_X9_placeOf_33, bO_some, bF_I, bF_D, bF_C, bC_v, pk_mul, nI_add, Option.toList, List.cons_append, List.nil_append, z1, z2, zI_0, if_true, if_false, eq_self, not_true_eq_false, not_false_eq_true, reduceCtorEq, enc_n]
theorem k_setInitial (g : CI h len c L sn SX n X ch H ini K V) (b : Bool) (x y : Int32) : (plX b x = none ∧ Call sc n_X9_setInitial [aD 0, aI (zI b), aI x, aI y] h = some (.inr 2, (h.1, h.2 + 1))) ∨ ∃ p h1, plX b x = some p ∧ p < 24 ∧ Call sc n_X9_setInitial [aD 0, aI (zI b), aI x, aI y] h = some (.inl (some (aI (ini p))), h1) ∧ CI h1 len c L sn SX n X ch H (upd ini p y) K V ∧ LK SCl 0 h h1 := by
  obtain ⟨km, ks, bo⟩ := g.bo
  have e1 := w_placeOf (sc := sc) (h := h) b x
  cases hp : plX b x with
  | none =>
    rw [hp, enc_n] at e1
    refine Or.inl ⟨rfl, ?_⟩
    simp only [c0_X9_setInitial, e_X9_setInitial_0, e_X9_setInitial_5, e_X9_setInitial_13, e_X9_setInitial_23, e_X9_setInitial_27, e_X9_setInitial_30, e_X9_setInitial_36, e_X9_setInitial_40, bO_some, bF_I, bF_D, bF_C, bC_v, pk_mul, nI_add, Option.toList, List.cons_append, List.nil_append, e1, zI_0, if_true, if_false, eq_self, not_true_eq_false, not_false_eq_true, reduceCtorEq]
  | some p =>
    have hlt := pl_lt hp
    have hne := enc_ne (a := p) (by omega)
    rw [hp, enc_s] at e1
    obtain ⟨g1, g2, g3, g4, ⟨f, s1, s2⟩, g6, g7⟩ := g
    have fr := fr_set (o := oI 0 24 (upd f p y)) s1 rfl
    have lk := LK.of fr
    have e2 : ldI sc h (fun t => t == 0) (aD 35) (nI p) = some (ini p) := by
      rw [← s2 p hlt]
      exact ldI_D s1 rfl hlt (by omega)
    have e3 : stI h (fun t => t == 0) 35 (nI p) y = some (hset h 35 (oI 0 24 (upd f p y))) := stI_D s1 rfl hlt (by omega)
    refine Or.inr ⟨p, _, rfl, hlt, ?_, ⟨g1.lk lk (fun p _ _ => by first | omega | (dsimp only; omega)), g2.lk lk (fun p hp => by first | omega | (dsimp only; omega)), g3.lk lk (fun p _ _ => by first | omega | (dsimp only; omega)), g4.lk lk (fun p _ _ => by first | omega | (dsimp only; omega)), ⟨upd f p y, hget_set s1, fun j hj => ?_⟩, g6.lk lk (by first | omega | (dsimp only; omega)) (fun p _ _ => by first | omega | (dsimp only; omega)), g7.lk lk (fun p _ _ => by first | omega | (dsimp only; omega))⟩, lk.mono (fun p z => by unfold SCl; first | omega | (dsimp only at z; omega))⟩
    · simp only [c0_X9_setInitial, e_X9_setInitial_0, e_X9_setInitial_5, e_X9_setInitial_13, e_X9_setInitial_23, e_X9_setInitial_27, e_X9_setInitial_30, e_X9_setInitial_36, e_X9_setInitial_40, bO_some, bF_I, bF_D, bF_C, bC_v, pk_mul, nI_add, Option.toList, List.cons_append, List.nil_append, e1, hne, bo.f7, e2, e3, zI_0, if_true, if_false, eq_self, not_true_eq_false, not_false_eq_true, reduceCtorEq]
    · rw [upd_eq, upd_eq, s2 j hj]
theorem w_checkKept (bo : BO h km ks kp sv) : Call sc n_X9_checkKept [aD 0] h = if kp = true then some (.inl none, h) else some (.inr 0, (h.1, h.2 + 1)) := by
  cases kp
  · simp only [c0_X9_checkKept, e_X9_checkKept_0, e_X9_checkKept_4, e_X9_checkKept_7, e_X9_checkKept_18, bO_some, bF_I, bF_D, bF_C, bC_v, pk_mul, nI_add, Option.toList, List.cons_append, List.nil_append, bo.f12, zI_0, if_true, if_false, eq_self, not_true_eq_false, not_false_eq_true, reduceCtorEq]
  · simp only [c0_X9_checkKept, e_X9_checkKept_0, e_X9_checkKept_4, e_X9_checkKept_7, e_X9_checkKept_18, bO_some, bF_I, bF_D, bF_C, bC_v, pk_mul, nI_add, Option.toList, List.cons_append, List.nil_append, bo.f12, zI_0, if_true, if_false, eq_self, not_true_eq_false, not_false_eq_true, reduceCtorEq]
theorem k_outputs (g : CI h len c L sn SX n X ch H ini K V) : (K = none ∧ Call sc n_X9_outputs [aD 0] h = some (.inr 0, (h.1, h.2 + 1))) ∨ ∃ k, K = some k ∧ Call sc n_X9_outputs [aD 0] h = some (.inl (some (aI (nI k.2.2))), h) := by
  obtain ⟨_, _, _, _, _, ⟨km, ks, bo, hkm, ⟨v, o, m, st, c1, c2⟩, _⟩, _⟩ := g
  have e1 := w_checkKept (sc := sc) bo
  have ok0 := bo.ok (sc := sc)
  cases K with
  | none =>
    rw [if_neg (by decide)] at e1
    refine Or.inl ⟨rfl, ?_⟩
    simp only [c0_X9_outputs, e_X9_outputs_0, e_X9_outputs_4, e_X9_outputs_8, e_X9_outputs_11, bO_some, bF_I, bF_D, bF_C, bC_v, pk_mul, nI_add, Option.toList, List.cons_append, List.nil_append, ok0, e1, zI_0, if_true, if_false, eq_self, not_true_eq_false, not_false_eq_true, reduceCtorEq]
    rfl
  | some k =>
    rw [if_pos (show (some k).isSome = true from rfl)] at e1
    obtain ⟨_, c3, _⟩ := c2 k rfl
    subst c3
    refine Or.inr ⟨k, rfl, ?_⟩
    simp only [c0_X9_outputs, e_X9_outputs_0, e_X9_outputs_4, e_X9_outputs_8, e_X9_outputs_11, bO_some, bF_I, bF_D, bF_C, bC_v, pk_mul, nI_add, Option.toList, List.cons_append, List.nil_append, ok0, e1, bo.f9, c1.f2, zI_0, if_true, if_false, eq_self, not_true_eq_false, not_false_eq_true, reduceCtorEq]
theorem k_output (g : CI h len c L sn SX n X ch H ini K V) (hk : ∀ k, K = some k → k.2.2 ≤ 2000) (x : Int32) : (K = none ∧ Call sc n_X9_output [aD 0, aI x] h = some (.inr 0, (h.1, h.2 + 1))) ∨ ∃ k, K = some k ∧ Call sc n_X9_output [aD 0, aI x] h = if IR k.2.2 x then some (.inl (some (aI (k.2.1 x.toNatClampNeg))), h) else some (.inr 2, (h.1, h.2 + 1)) := by
  obtain ⟨_, _, _, _, _, ⟨km, ks, bo, hkm, ⟨v, o, m, st, c1, c2⟩, _⟩, _⟩ := g
  have e1 := w_checkKept (sc := sc) bo
  have ok0 := bo.ok (sc := sc)
  cases K with
  | none =>
    rw [if_neg (by decide)] at e1
    refine Or.inl ⟨rfl, ?_⟩
    simp only [c0_X9_output, e_X9_output_0, e_X9_output_4, e_X9_output_8, e_X9_output_13, e_X9_output_16, e_X9_output_19, e_X9_output_30, e_X9_output_34, e_X9_output_37, e_X9_output_39, bO_some, bF_I, bF_D, bF_C, bC_v, pk_mul, nI_add, Option.toList, List.cons_append, List.nil_append, ok0, e1, zI_0, if_true, if_false, eq_self, not_true_eq_false, not_false_eq_true, reduceCtorEq]
    rfl
  | some k =>
    rw [if_pos (show (some k).isSome = true from rfl)] at e1
    obtain ⟨_, c3, c4⟩ := c2 k rfl
    subst c3
    have hk2 := hk k rfl
    refine Or.inr ⟨k, rfl, ?_⟩
    by_cases h1 : IR k.2.2 x
    · rw [if_pos h1]
      obtain ⟨z1, z2⟩ := (lt_IR (by omega) x).mp h1
      obtain ⟨i, hi, rfl⟩ := has_ex (by omega) h1
      rw [nI_clamp (show i < 2 ^ 31 by omega), ← c4 i hi]
      simp only [c0_X9_output, e_X9_output_0, e_X9_output_4, e_X9_output_8, e_X9_output_13, e_X9_output_16, e_X9_output_19, e_X9_output_30, e_X9_output_34, e_X9_output_37, e_X9_output_39, bO_some, bF_I, bF_D, bF_C, bC_v, pk_mul, nI_add, Option.toList, List.cons_append, List.nil_append, ok0, e1, bo.f9, c1.f2, c1.f1, z1, z2, c1.l2 (show i < 2000 by omega), zI_0, if_true, if_false, eq_self, not_true_eq_false, not_false_eq_true, reduceCtorEq]
    · rw [if_neg h1]
      by_cases z1 : x < 0
      · simp only [c0_X9_output, e_X9_output_0, e_X9_output_4, e_X9_output_8, e_X9_output_13, e_X9_output_16, e_X9_output_19, e_X9_output_30, e_X9_output_34, e_X9_output_37, e_X9_output_39, bO_some, bF_I, bF_D, bF_C, bC_v, pk_mul, nI_add, Option.toList, List.cons_append, List.nil_append, ok0, e1, z1, zI_0, if_true, if_false, eq_self, not_true_eq_false, not_false_eq_true, reduceCtorEq]
      · have z2 : ¬ x < nI k.2.2 := fun z => h1 ((lt_IR (by omega) x).mpr ⟨z1, z⟩)
        simp only [c0_X9_output, e_X9_output_0, e_X9_output_4, e_X9_output_8, e_X9_output_13, e_X9_output_16, e_X9_output_19, e_X9_output_30, e_X9_output_34, e_X9_output_37, e_X9_output_39, bO_some, bF_I, bF_D, bF_C, bC_v, pk_mul, nI_add, Option.toList, List.cons_append, List.nil_append, ok0, e1, bo.f9, c1.f2, z1, z2, zI_0, if_true, if_false, eq_self, not_true_eq_false, not_false_eq_true, reduceCtorEq]
theorem k_finalValue (g : CI h len c L sn SX n X ch H ini K V) (b : Bool) (x : Int32) : (K = none ∧ Call sc n_X9_finalValue [aD 0, aI (zI b), aI x] h = some (.inr 0, (h.1, h.2 + 1))) ∨ ∃ k, K = some k ∧ ((plX b x = none ∧ Call sc n_X9_finalValue [aD 0, aI (zI b), aI x] h = some (.inr 2, (h.1, h.2 + 1))) ∨ ∃ p, plX b x = some p ∧ p < 24 ∧ Call sc n_X9_finalValue [aD 0, aI (zI b), aI x] h = some (.inl (some (aI (k.1 p))), h)) := by
  obtain ⟨_, _, _, _, _, ⟨km, ks, bo, hkm, ⟨v, o, m, st, c1, c2⟩, _⟩, _⟩ := g
  have e1 := w_checkKept (sc := sc) bo
  have e2 := w_placeOf (sc := sc) (h := h) b x
  have ok0 := bo.ok (sc := sc)
  cases K with
  | none =>
    rw [if_neg (by decide)] at e1
    refine Or.inl ⟨rfl, ?_⟩
    simp only [c0_X9_finalValue, e_X9_finalValue_0, e_X9_finalValue_4, e_X9_finalValue_9, e_X9_finalValue_15, e_X9_finalValue_25, e_X9_finalValue_29, e_X9_finalValue_32, e_X9_finalValue_34, bO_some, bF_I, bF_D, bF_C, bC_v, pk_mul, nI_add, Option.toList, List.cons_append, List.nil_append, ok0, e1, zI_0, if_true, if_false, eq_self, not_true_eq_false, not_false_eq_true, reduceCtorEq]
    rfl
  | some k =>
    rw [if_pos (show (some k).isSome = true from rfl)] at e1
    obtain ⟨c4, _, _⟩ := c2 k rfl
    refine Or.inr ⟨k, rfl, ?_⟩
    cases hp : plX b x with
    | none =>
      rw [hp, enc_n] at e2
      refine Or.inl ⟨rfl, ?_⟩
      simp only [c0_X9_finalValue, e_X9_finalValue_0, e_X9_finalValue_4, e_X9_finalValue_9, e_X9_finalValue_15, e_X9_finalValue_25, e_X9_finalValue_29, e_X9_finalValue_32, e_X9_finalValue_34, bO_some, bF_I, bF_D, bF_C, bC_v, pk_mul, nI_add, Option.toList, List.cons_append, List.nil_append, ok0, e1, e2, zI_0, if_true, if_false, eq_self, not_true_eq_false, not_false_eq_true, reduceCtorEq]
    | some p =>
      have hlt := pl_lt hp
      have hne := enc_ne (a := p) (by omega)
      rw [hp, enc_s] at e2
      refine Or.inr ⟨p, rfl, hlt, ?_⟩
      rw [← c4 p hlt]
      simp only [c0_X9_finalValue, e_X9_finalValue_0, e_X9_finalValue_4, e_X9_finalValue_9, e_X9_finalValue_15, e_X9_finalValue_25, e_X9_finalValue_29, e_X9_finalValue_32, e_X9_finalValue_34, bO_some, bF_I, bF_D, bF_C, bC_v, pk_mul, nI_add, Option.toList, List.cons_append, List.nil_append, ok0, e1, e2, hne, bo.f9, c1.f0, c1.l1 hlt, zI_0, if_true, if_false, eq_self, not_true_eq_false, not_false_eq_true, reduceCtorEq]
end
