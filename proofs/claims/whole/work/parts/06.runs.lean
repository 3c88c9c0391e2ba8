/-! RUNS TO THEIR END, AND THEIR EQUATIONS -/
theorem ex_mono (sc : SC) : ∀ (n k pc : Nat) (L : List AV) (dl : DL) (st : List AV) (h : AH) (r : Res), ex sc n k pc L dl st h = some r → ex sc (n + 1) k pc L dl st h = some r := by
  intro n
  induction n with
  | zero => intro k pc L dl st h r e; simp [ex] at e
  | succ n ih =>
    intro k pc L dl st h r e
    rw [ex] at e
    rw [ex]
    cases hm : MT k with
    | none => simp [hm] at e
    | some mi =>
      simp only [hm] at e ⊢
      cases hs : stp sc mi pc L dl st h with
      | none => simp [hs] at e
      | some a =>
        simp only [hs] at e ⊢
        rcases a with c | c | ⟨y, kd, args, c⟩ | c
        · exact ih _ _ _ _ _ _ _ e
        · exact e
        · simp only at e ⊢
          cases hy : MT y with
          | none => simp [hy] at e
          | some my =>
            simp only [hy] at e ⊢
            cases hr : ex sc n y 0 (ent (mL my) args) none [] c.2.2.2.2 with
            | none => simp [hr] at e
            | some q =>
              simp only [hr] at e
              simp only [ih _ _ _ _ _ _ _ hr]
              obtain ⟨o, h1⟩ := q
              cases o with
              | inl v => exact ih _ _ _ _ _ _ _ e
              | inr E =>
                simp only at e ⊢
                by_cases hk : kd = 0 ∨ kd = 1
                · rw [if_pos hk] at e ⊢
                  cases hh : hnd mi pc E (mHH mi) with
                  | none => rw [hh] at e; cases e
                  | some x =>
                    rw [hh] at e
                    cases x with
                    | none => exact e
                    | some q => exact ih _ _ _ _ _ _ _ e
                · rw [if_neg hk] at e
                  cases e
        · exact e
theorem ex_le (sc : SC) {n m k pc : Nat} {L : List AV} {dl : DL} {st : List AV} {h : AH} {r : Res} (hnm : n ≤ m) (e : ex sc n k pc L dl st h = some r) : ex sc m k pc L dl st h = some r := by
  induction hnm with
  | refl => exact e
  | step _ ih => exact ex_mono _ _ _ _ _ _ _ _ _ ih
theorem ex_det (sc : SC) {n m k pc : Nat} {L : List AV} {dl : DL} {st : List AV} {h : AH} {r r' : Res} (e : ex sc n k pc L dl st h = some r) (e' : ex sc m k pc L dl st h = some r') : r = r' := by
  have a := ex_le sc (Nat.le_max_left n m) e
  have b := ex_le sc (Nat.le_max_right n m) e'
  rw [a] at b
  exact Option.some.inj b

noncomputable def Run (sc : SC) (k pc : Nat) (L : List AV) (dl : DL) (st : List AV) (h : AH) : Option Res :=
  @dite _ (∃ r, ∃ n, ex sc n k pc L dl st h = some r) (Classical.propDecidable _) (fun hx => some hx.choose) (fun _ => none)
theorem Run_iff {sc : SC} {k pc : Nat} {L : List AV} {dl : DL} {st : List AV} {h : AH} {r : Res} : Run sc k pc L dl st h = some r ↔ ∃ n, ex sc n k pc L dl st h = some r := by
  unfold Run
  constructor
  · intro e
    by_cases hx : ∃ r, ∃ n, ex sc n k pc L dl st h = some r
    · rw [dif_pos hx] at e
      cases e
      exact hx.choose_spec
    · rw [dif_neg hx] at e
      cases e
  · rintro ⟨n, e⟩
    have hx : ∃ r, ∃ n, ex sc n k pc L dl st h = some r := ⟨r, n, e⟩
    rw [dif_pos hx]
    obtain ⟨m, e'⟩ := hx.choose_spec
    rw [ex_det sc e' e]
theorem opt_ext {α : Type} {a b : Option α} (h : ∀ r, a = some r ↔ b = some r) : a = b := by
  cases a with
  | none =>
    cases b with
    | none => rfl
    | some y => exact absurd ((h y).mpr rfl) (by simp)
  | some x => exact ((h x).mp rfl).symm
theorem Run_go {sc : SC} {k pc : Nat} {mi : MI} {L : List AV} {dl : DL} {st : List AV} {h : AH} {c : Cfg} (hm : MT k = some mi) (hs : stp sc mi pc L dl st h = some (.inl c)) : Run sc k pc L dl st h = Run sc k c.1 c.2.1 c.2.2.1 c.2.2.2.1 c.2.2.2.2 := by
  refine opt_ext fun r => ?_
  rw [Run_iff, Run_iff]
  constructor
  · rintro ⟨n, e⟩
    cases n with
    | zero => simp [ex] at e
    | succ n =>
      rw [ex] at e
      simp only [hm, hs] at e
      exact ⟨n, e⟩
  · rintro ⟨n, e⟩
    refine ⟨n + 1, ?_⟩
    rw [ex]
    simp only [hm, hs]
    exact e
theorem Run_ret {sc : SC} {k pc : Nat} {mi : MI} {L : List AV} {dl : DL} {st : List AV} {h : AH} {c : Option AV × AH} (hm : MT k = some mi) (hs : stp sc mi pc L dl st h = some (.inr (.inl c))) : Run sc k pc L dl st h = some (.inl c.1, c.2) := by
  rw [Run_iff]
  refine ⟨1, ?_⟩
  rw [ex]
  simp only [hm, hs]
theorem Run_thr {sc : SC} {k pc : Nat} {mi : MI} {L : List AV} {dl : DL} {st : List AV} {h : AH} {c : Nat × AH} (hm : MT k = some mi) (hs : stp sc mi pc L dl st h = some (.inr (.inr (.inr c)))) : Run sc k pc L dl st h = some (.inr c.1, c.2) := by
  rw [Run_iff]
  refine ⟨1, ?_⟩
  rw [ex]
  simp only [hm, hs]
/-- a method's run on its arguments -/
noncomputable def Call (sc : SC) (y : Nat) (args : List AV) (h : AH) : Option Res := match MT y with
  | some my => Run sc y 0 (ent (mL my) args) none [] h
  | none => none
theorem Call_eq {sc : SC} {y : Nat} {my : MI} {args : List AV} {h : AH} (hy : MT y = some my) : Call sc y args h = Run sc y 0 (ent (mL my) args) none [] h := by
  unfold Call
  rw [hy]
theorem Run_call {sc : SC} {k pc y kd : Nat} {mi : MI} {L : List AV} {dl : DL} {st args : List AV} {h : AH} {c : Cfg} (hm : MT k = some mi) (hs : stp sc mi pc L dl st h = some (.inr (.inr (.inl (y, kd, args, c))))) {v : Option AV} {h1 : AH}
    (hr : Call sc y args c.2.2.2.2 = some (.inl v, h1)) : Run sc k pc L dl st h = Run sc k c.1 c.2.1 c.2.2.1 (v.toList ++ c.2.2.2.1) h1 := by
  unfold Call at hr
  cases hy : MT y with
  | none => rw [hy] at hr; cases hr
  | some my =>
    rw [hy] at hr
    obtain ⟨n0, e0⟩ := Run_iff.mp hr
    refine opt_ext fun r => ?_
    rw [Run_iff, Run_iff]
    constructor
    · rintro ⟨n, e⟩
      cases n with
      | zero => simp [ex] at e
      | succ n =>
        rw [ex] at e
        simp only [hm, hs, hy] at e
        cases hq : ex sc n y 0 (ent (mL my) args) none [] c.2.2.2.2 with
        | none => simp [hq] at e
        | some q =>
          have := ex_det sc hq e0
          subst this
          simp only [hq] at e
          exact ⟨n, e⟩
    · rintro ⟨n, e⟩
      refine ⟨max n0 n + 1, ?_⟩
      rw [ex]
      simp only [hm, hs, hy, ex_le sc (Nat.le_max_left n0 n) e0]
      exact ex_le sc (Nat.le_max_right n0 n) e
/-- a callee's throw that is not caught here -/
theorem Run_callX {sc : SC} {k pc y kd E : Nat} {mi : MI} {L : List AV} {dl : DL} {st args : List AV} {h : AH} {c : Cfg} (hm : MT k = some mi) (hs : stp sc mi pc L dl st h = some (.inr (.inr (.inl (y, kd, args, c))))) {h1 : AH}
    (hr : Call sc y args c.2.2.2.2 = some (.inr E, h1)) (hk : kd = 0 ∨ kd = 1) (hh : hnd mi pc E (mHH mi) = some none) : Run sc k pc L dl st h = some (.inr E, h1) := by
  unfold Call at hr
  cases hy : MT y with
  | none => rw [hy] at hr; cases hr
  | some my =>
    rw [hy] at hr
    obtain ⟨n0, e0⟩ := Run_iff.mp hr
    rw [Run_iff]
    refine ⟨n0 + 1, ?_⟩
    rw [ex]
    simp only [hm, hs, hy, e0, if_pos hk, hh]
/-- a callee's throw that is caught here -/
theorem Run_callC {sc : SC} {k pc y kd E i t : Nat} {mi : MI} {L : List AV} {dl : DL} {st args : List AV} {h : AH} {c : Cfg} (hm : MT k = some mi) (hs : stp sc mi pc L dl st h = some (.inr (.inr (.inl (y, kd, args, c))))) {h1 : AH}
    (hr : Call sc y args c.2.2.2.2 = some (.inr E, h1)) (hk : kd = 0 ∨ kd = 1) (hh : hnd mi pc E (mHH mi) = some (some (i, t))) : Run sc k pc L dl st h = Run sc k t (c.2.1.set i aU) (dlc i c.2.2.1) [] h1 := by
  unfold Call at hr
  cases hy : MT y with
  | none => rw [hy] at hr; cases hr
  | some my =>
    rw [hy] at hr
    obtain ⟨n0, e0⟩ := Run_iff.mp hr
    refine opt_ext fun r => ?_
    rw [Run_iff, Run_iff]
    constructor
    · rintro ⟨n, e⟩
      cases n with
      | zero => simp [ex] at e
      | succ n =>
        rw [ex] at e
        simp only [hm, hs, hy] at e
        cases hq : ex sc n y 0 (ent (mL my) args) none [] c.2.2.2.2 with
        | none => simp [hq] at e
        | some q =>
          have := ex_det sc hq e0
          subst this
          simp only [hq, if_pos hk, hh] at e
          exact ⟨n, e⟩
    · rintro ⟨n, e⟩
      refine ⟨max n0 n + 1, ?_⟩
      rw [ex]
      simp only [hm, hs, hy, ex_le sc (Nat.le_max_left n0 n) e0, if_pos hk, hh]
      exact ex_le sc (Nat.le_max_right n0 n) e
