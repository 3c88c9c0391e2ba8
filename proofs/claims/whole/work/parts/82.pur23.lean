/-! PURE 23: the reader: instructions, the text -/
theorem nu_ge (c : Nat → Int32) (len pos : Nat) (neg : Bool) : pos ≤ (nuX c len pos neg).2.1 := by
  unfold nuX
  simp only
  split <;> split <;> (try split) <;> simp only <;> omega
theorem op_ge (c : Nat → Int32) (len k : Nat) : ∀ d o pos vs, pos ≤ (opX c len k d o pos vs).2.1 := by
  intro d
  induction d with
  | zero => exact fun _ _ _ => Nat.le_refl _
  | succ d ih =>
    intro o pos vs
    unfold opX
    have h1 := nu_ge c len (pos + 1) (decide ((fL k).getD o 0 = nI 110))
    split
    · exact ih _ _ _
    · split
      · split
        · exact Nat.le_trans (by omega) (ih _ _ _)
        · show pos ≤ (nuX c len (pos + 1) (decide ((fL k).getD o 0 = nI 110))).2.1
          omega
      · exact Nat.le_refl _
/-- the text behind the first instruction -/
def txX (c : Nat → Int32) (len : Nat) : Nat → Bool × Nat × Nat × (Nat → Nat → Int32) → Bool × Nat × Nat × (Nat → Nat → Int32)
  | 0, s => s
  | d + 1, s => if s.1 = true ∧ s.2.1 < len then
      (if psX c len s.2.1 (nI 59) = true then
        txX c len d ((inX c len (s.2.1 + 1)).1, (inX c len (s.2.1 + 1)).2.1, s.2.2.1 + 1, appX s.2.2.1 s.2.2.2 (row (nI (inX c len (s.2.1 + 1)).2.2.1) ((inX c len (s.2.1 + 1)).2.2.2 0) ((inX c len (s.2.1 + 1)).2.2.2 1) ((inX c len (s.2.1 + 1)).2.2.2 2) 0))
       else (false, s.2.1, s.2.2.1, s.2.2.2))
    else s
/-- the whole text: is it right, where the reader is, how many instructions, which -/
def rtX (c : Nat → Int32) (len : Nat) : Bool × Nat × Nat × (Nat → Nat → Int32) :=
  if len = 0 then (true, 0, 0, fun _ _ => 0)
  else txX c len 120 ((inX c len 0).1, (inX c len 0).2.1, 1, appX 0 (fun _ _ => 0) (row (nI (inX c len 0).2.2.1) ((inX c len 0).2.2.2 0) ((inX c len 0).2.2.2 1) ((inX c len 0).2.2.2 2) 0))
section
variable {sc : SC} {h h' : AH} {p pr len pos i j k n m s e : Nat} {num x x1 x2 x3 : Int32} {c f : Nat → Int32} {S : Nat → Prop} {w : List Int32} {v3 v4 : AV}
theorem xC_ofV {f' : Nat → Int32} {k0 : Int32} {vs : Nat → Int32} (h1 : ofV f' n vs) (h2 : ∀ j, (j < n * 5 + 1 ∨ n * 5 + 3 < j) → f' j = apK f n k0 j) : xC (n + 1) f' = appX n (xC n f) (row k0 (vs 0) (vs 1) (vs 2) 0) := by
  rw [← xC_row]
  funext i w
  unfold xC nm
  by_cases hh : i < n + 1 ∧ w < 5
  · rw [if_pos hh, if_pos hh]
    simp only [upd_eq]
    by_cases h5 : i * 5 + w = n * 5 + 3
    · rw [if_pos h5, h5]
      exact h1.2.2
    · rw [if_neg h5]
      by_cases h6 : i * 5 + w = n * 5 + 2
      · rw [if_pos h6, h6]
        exact h1.2.1
      · rw [if_neg h6]
        by_cases h7 : i * 5 + w = n * 5 + 1
        · rw [if_pos h7, h7]
          exact h1.1
        · rw [if_neg h7]
          exact h2 _ (by omega)
  · rw [if_neg hh, if_neg hh]
theorem c_X7_readsInstruction (hp : p + 1 < pr) (hr : RP h p pr len pos c m f) (hm : ∀ k, knX c len pos = some k → m < 30) : ∃ h' m' f' pos', Call sc n_X7_readsInstruction [aD p] h = some (.inl (some (aI (zI (inX c len pos).1))), h') ∧ pos' = (inX c len pos).2.1 ∧ RP h' p pr len pos' c m' f' ∧ ((inX c len pos).1 = true → m' = m + 1 ∧ xC (m + 1) f' = appX m (xC m f) (row (nI (inX c len pos).2.2.1) ((inX c len pos).2.2.2 0) ((inX c len pos).2.2.2 1) ((inX c len pos).2.2.2 2) 0)) ∧ Fr (SR p pr) h h' := by
  obtain ⟨⟨num, g⟩, gp⟩ := hr
  have hpos := g.2.2.2
  obtain ⟨h2, q1, q2, q3⟩ := c_X7_readKind (sc := sc) g
  have q3' : Fr (SR p pr) h h2 := q3.mono (fun _ z => Or.inl z)
  have gp2 := gp.keep q3 (show ¬ pr = p by omega) (show ¬ pr + 1 = p by omega)
  unfold inX
  cases hk : knX c len pos with
  | none =>
    rw [hk] at q1 q2
    refine ⟨h2, m, f, pos, ?_, rfl, ⟨⟨num, q2⟩, gp2⟩, (fun z => by cases z), q3'⟩
    simp only [c0_X7_readsInstruction, e_X7_readsInstruction_0, e_X7_readsInstruction_4, e_X7_readsInstruction_22, bI_t g.ok, q1, enc, bO_some, bF_I, bF_D, bF_C, bC_v, pk_mul, nI_add, Option.toList, List.cons_append, List.nil_append, zI_0, if_true, if_false, eq_self, not_true_eq_false, not_false_eq_true]
    rfl
  | some k =>
    rw [hk] at q1 q2
    have hm3 := hm k hk
    have hk2 := knd_ok hk hpos
    have h3 : nI m < nI 30 := Int32.not_le.mp (nI_ge hm3 (by omega))
    have e1 := c_X6_appendKind (sc := sc) (x := nI k) gp2 (by omega)
    have fr5 := gp2.fr (m := m + 1) (f' := apK f m (nI k))
    have g5 := q2.keep fr5 (show ¬ (p = pr ∨ p = pr + 1) by omega) (show ¬ (p + 1 = pr ∨ p + 1 = pr + 1) by omega)
    have gp5 := gp2.to (f' := apK f m (nI k)) (show (m + 1) * 5 ≤ 150 by omega)
    have hv : ofV (apK f m (nI k)) m (fun _ => 0) := by
      unfold ofV apK
      simp only [upd_eq]
      refine ⟨?_, ?_, ?_⟩
      · simp
        rfl
      · simp
        rfl
      · simp
        rfl
    obtain ⟨h', f', pos', s1, s2, s3, s4, s5, s6⟩ := l_ops (sc := sc) hp hk2.1 hm3 3 0 rfl _ (pos + (wL k).length) (fun _ => 0) (apK f m (nI k)) aU ⟨⟨num, g5⟩, gp5⟩ hv
    refine ⟨h', m + 1, f', pos', ?_, s2, s3, ?_, (q3'.trans (fr5.mono (fun _ z => Or.inr z))).trans s6⟩
    · have hne : ¬ nI k = -1 := enc_ne (by omega)
      simp only [c0_X7_readsInstruction, e_X7_readsInstruction_0, e_X7_readsInstruction_4, e_X7_readsInstruction_10, e_X7_readsInstruction_14, e_X7_readsInstruction_17, e_X7_readsInstruction_24, e_X7_readsInstruction_28, e_X7_readsInstruction_32, bI_t g.ok, q1, enc, hne, q2.f4, gp2.f1, h3, bI_t gp2.ok, e1, bO_some, bF_I, bF_D, bF_C, bC_v, pk_mul, nI_add, Option.toList, List.cons_append, List.nil_append, zI_0, if_true, if_false, eq_self, not_true_eq_false, not_false_eq_true]
      exact s1
    · intro hok
      exact ⟨rfl, xC_ofV s4 s5⟩
theorem in_ge (hh : (inX c len pos).1 = true) (hp : pos ≤ len) : pos + 3 ≤ (inX c len pos).2.1 := by
  unfold inX at hh ⊢
  cases hk : knX c len pos with
  | none =>
    rw [hk] at hh
    cases hh
  | some k =>
    have h1 := op_ge c len k 3 0 (pos + (wL k).length) (fun _ => 0)
    have h2 := knd_ok hk hp
    have h3 := (KS_w (sc := (0, fun _ => 0)) h2.1).2.2.1
    show pos + 3 ≤ (opX c len k 3 0 (pos + (wL k).length) (fun _ => 0)).2.1
    omega
theorem l_text (hp : p + 1 < pr) : ∀ d i, i + d = 120 → ∀ h (st : Bool × Nat × Nat × (Nat → Nat → Int32)) f m, RP h p pr len st.2.1 c m f → (st.1 = true → m = st.2.2.1 ∧ xC m f = st.2.2.2 ∧ 4 * m ≤ st.2.1 + 1) → (st.1 = true → len ≤ st.2.1 + d) → ∃ h' m' f', Run sc n_X7_readsText 35 [aD p, aI (zI st.1), aI (nI i)] none [] h = some (.inl (some (aI (zI (txX c len d st).1))), h') ∧ RP h' p pr len (txX c len d st).2.1 c m' f' ∧ ((txX c len d st).1 = true → m' = (txX c len d st).2.2.1 ∧ xC m' f' = (txX c len d st).2.2.2 ∧ len ≤ (txX c len d st).2.1) ∧ Fr (SR p pr) h h' := by
  intro d
  induction d with
  | zero =>
    intro i hi h st f m hr hs hl
    refine ⟨h, m, f, ?_, hr, (fun z => ⟨(hs z).1, (hs z).2.1, hl z⟩), Fr.rfl⟩
    rw [e_X7_readsText_35, if_pos (nI_le (by omega) (by omega)), e_X7_readsText_84]
    exact bI_t (zI_ret _) _
  | succ d ih =>
    intro i hi h st f m hr hs hl
    obtain ⟨b, pos, mm, X⟩ := st
    simp only at hr hs hl
    have h1 : ¬ nI 120 ≤ nI i := nI_ge (by omega) (by omega)
    have hr0 := hr
    obtain ⟨⟨num, g⟩, gp⟩ := hr
    have hlen := g.2.2.1
    have hpl2 := g.2.2.2
    cases b
    · refine ⟨h, m, f, ?_, hr0, (fun z => by cases z), Fr.rfl⟩
      simp only [e_X7_readsText_35, e_X7_readsText_41, e_X7_readsText_84, h1, zI_0, if_true, if_false, eq_self, not_true_eq_false, not_false_eq_true]
      exact bI_t rfl _
    · obtain ⟨hs1, hs2, hs3⟩ := hs rfl
      subst hs1
      by_cases hpl : pos < len
      · have h2 : ¬ nI len ≤ nI pos := nI_ge hpl (by omega)
        obtain ⟨h2', q1, q2, q3⟩ := c_X7_passes (sc := sc) g (nI 59)
        have q3' : Fr (SR p pr) h h2' := q3.mono (fun _ z => Or.inl z)
        have gp2 := gp.keep q3 (show ¬ pr = p by omega) (show ¬ pr + 1 = p by omega)
        have htx : txX c len (d + 1) (true, pos, m, X) = (if psX c len pos (nI 59) = true then txX c len d ((inX c len (pos + 1)).1, (inX c len (pos + 1)).2.1, m + 1, appX m X (row (nI (inX c len (pos + 1)).2.2.1) ((inX c len (pos + 1)).2.2.2 0) ((inX c len (pos + 1)).2.2.2 1) ((inX c len (pos + 1)).2.2.2 2) 0)) else (false, pos, m, X)) := by
          show (if (true = true ∧ pos < len) then _ else _) = _
          rw [if_pos ⟨rfl, hpl⟩]
        rw [htx]
        have T77 : ∀ (y : Bool) (h3 : AH), Run sc n_X7_readsText 69 [aD p, aI (zI true), aI (nI i)] none [aI (zI y)] h3 = Run sc n_X7_readsText 35 [aD p, aI (zI y), aI (nI (i + 1))] none [] h3 := by
          intro y h3
          cases y
          · simp only [e_X7_readsText_69, e_X7_readsText_76, e_X7_readsText_77, zI_0, if_true, if_false, eq_self, not_true_eq_false, not_false_eq_true, bO_some, bF_I, bF_D, bF_C, bC_v, pk_mul, nI_add, Option.toList, List.cons_append, List.nil_append]
            rfl
          · simp only [e_X7_readsText_69, e_X7_readsText_72, e_X7_readsText_77, zI_0, if_true, if_false, eq_self, not_true_eq_false, not_false_eq_true, bO_some, bF_I, bF_D, bF_C, bC_v, pk_mul, nI_add, Option.toList, List.cons_append, List.nil_append, reduceCtorEq]
            rfl
        by_cases hps : psX c len pos (nI 59) = true
        · rw [if_pos hps] at q2
          rw [if_pos hps]
          obtain ⟨h3, m3, f3, pos3, r1, r2, r3, r4, r5⟩ := c_X7_readsInstruction (sc := sc) hp ⟨⟨num, q2⟩, gp2⟩ (fun k hk => by
            have hk2 := knd_ok hk (by omega)
            have h3 := (KS_w (sc := sc) hk2.1).2.2.1
            omega)
          subst r2
          obtain ⟨h', m', f', s1, s2, s3, s4⟩ := ih (i + 1) (by omega) h3 ((inX c len (pos + 1)).1, (inX c len (pos + 1)).2.1, m + 1, appX m X (row (nI (inX c len (pos + 1)).2.2.1) ((inX c len (pos + 1)).2.2.2 0) ((inX c len (pos + 1)).2.2.2 1) ((inX c len (pos + 1)).2.2.2 2) 0)) f3 m3 r3 (fun z => by
            have h4 := r4 z
            have h5 := in_ge z (by omega)
            have h6 : m3 = m + 1 := h4.1
            subst h6
            refine ⟨rfl, ?_, ?_⟩
            · rw [h4.2, hs2]
            · show 4 * (m + 1) ≤ (inX c len (pos + 1)).2.1 + 1
              omega) (fun z => by
            have h5 := in_ge z (by omega)
            have h6 := hl rfl
            show len ≤ (inX c len (pos + 1)).2.1 + d
            omega)
          refine ⟨h', m', f', ?_, s2, s3, (q3'.trans r5).trans s4⟩
          rw [← s1, ← T77]
          rw [e_X7_readsText_35]
          simp only [e_X7_readsText_41, e_X7_readsText_45, e_X7_readsText_49, e_X7_readsText_53, e_X7_readsText_56, e_X7_readsText_62, e_X7_readsText_65, h1, h2, g.f1, g.f2, bI_t g.ok, bI_t q2.ok, q1, hps, r1, bO_some, bF_I, bF_D, bF_C, bC_v, pk_mul, nI_add, Option.toList, List.cons_append, List.nil_append, zI_0, if_true, if_false, eq_self, not_true_eq_false, not_false_eq_true, reduceCtorEq]
        · have hps' := hps
          rw [Bool.not_eq_true] at hps'
          rw [if_neg hps] at q2
          rw [if_neg hps]
          refine ⟨h2', m, f, ?_, ⟨⟨num, q2⟩, gp2⟩, (fun z => by cases z), q3'⟩
          have hfin : ∀ i', Run sc n_X7_readsText 35 [aD p, aI (nI 0), aI (nI i')] none [] h2' = some (.inl (some (aI (zI false))), h2') := by
            intro i'
            rw [e_X7_readsText_35]
            split
            · rw [e_X7_readsText_84]
              exact bI_t rfl _
            · rw [e_X7_readsText_41, if_pos (by decide), e_X7_readsText_84]
              exact bI_t rfl _
          rw [e_X7_readsText_35]
          simp only [e_X7_readsText_41, e_X7_readsText_45, e_X7_readsText_49, e_X7_readsText_53, e_X7_readsText_56, e_X7_readsText_62, e_X7_readsText_76, e_X7_readsText_77, h1, h2, g.f1, g.f2, bI_t g.ok, q1, hps', bO_some, bF_I, bF_D, bF_C, bC_v, pk_mul, nI_add, Option.toList, List.cons_append, List.nil_append, zI_0, if_true, if_false, eq_self, not_true_eq_false, not_false_eq_true, reduceCtorEq]
          exact hfin (i + 1)
      · have h2 : nI len ≤ nI pos := nI_le (by omega) (by omega)
        have htx : txX c len (d + 1) (true, pos, m, X) = (true, pos, m, X) := by
          show (if (true = true ∧ pos < len) then _ else _) = _
          rw [if_neg (fun z => hpl z.2)]
        rw [htx]
        refine ⟨h, m, f, ?_, hr0, (fun _ => ⟨rfl, hs2, by show len ≤ pos; omega⟩), Fr.rfl⟩
        simp only [e_X7_readsText_35, e_X7_readsText_41, e_X7_readsText_45, e_X7_readsText_49, e_X7_readsText_53, e_X7_readsText_84, h1, h2, g.f1, g.f2, bO_some, bF_I, bF_D, bF_C, bC_v, pk_mul, nI_add, Option.toList, List.cons_append, List.nil_append, zI_0, if_true, if_false, eq_self, not_true_eq_false, not_false_eq_true, reduceCtorEq]
        exact bI_t rfl _
theorem c_X7_readsText (hp : p + 1 < pr) (hr : RP h p pr len pos c m f) : ∃ h' m' f', Call sc n_X7_readsText [aD p] h = some (.inl (some (aI (zI (rtX c len).1))), h') ∧ RP h' p pr len (rtX c len).2.1 c m' f' ∧ ((rtX c len).1 = true → m' = (rtX c len).2.2.1 ∧ xC m' f' = (rtX c len).2.2.2 ∧ len ≤ (rtX c len).2.1) ∧ Fr (SR p pr) h h' := by
  obtain ⟨⟨num, g⟩, gp⟩ := hr
  have hlen := g.2.2.1
  obtain ⟨h1, q1, q2, q3⟩ := g.p2 (k := 0) (Nat.zero_le _)
  have gp1 := gp.keep q3 (show ¬ pr = p by omega) (show ¬ pr + 1 = p by omega)
  have e2 := gp1.pf (m := 0)
  have fr2 := gp1.fr (m := 0) (f' := f)
  have g2 := q2.keep fr2 (show ¬ (p = pr ∨ p = pr + 1) by omega) (show ¬ (p + 1 = pr ∨ p + 1 = pr + 1) by omega)
  have gp2 := gp1.to (m := 0) (f' := f) (by omega)
  have frr := (q3.mono (T := SR p pr) (fun _ z => Or.inl z)).trans (fr2.mono (fun _ z => Or.inr z))
  have hx0 : xC 0 f = fun _ _ => 0 := by
    funext i w
    unfold xC nm
    rw [if_neg (by omega)]
  unfold rtX
  by_cases h0 : len = 0
  · rw [if_pos h0]
    obtain ⟨h', m', f', s1, s2, s3, s4⟩ := l_text (sc := sc) hp 120 0 rfl _ (true, 0, 0, fun _ _ => 0) f 0 ⟨⟨num, g2⟩, gp2⟩ (fun _ => ⟨rfl, hx0, by omega⟩) (fun _ => by omega)
    have htx : txX c len 120 (true, 0, 0, fun _ _ => 0) = (true, 0, 0, fun _ _ => 0) := by
      show (if (true = true ∧ 0 < len) then _ else _) = _
      rw [if_neg (fun z => by have := z.2; omega)]
    rw [htx] at s1 s2 s3
    refine ⟨h', m', f', ?_, s2, s3, frr.trans s4⟩
    rw [← s1]
    simp only [c0_X7_readsText, e_X7_readsText_0, e_X7_readsText_5, e_X7_readsText_9, e_X7_readsText_13, e_X7_readsText_17, e_X7_readsText_27, e_X7_readsText_32, q1, q2.f4, e2, g2.f1, h0, show (nI 0 = 0) = True from eq_true (by decide), bO_some, bF_I, bF_D, bF_C, bC_v, pk_mul, nI_add, Option.toList, List.cons_append, List.nil_append, zI_0, if_true, if_false, eq_self, not_true_eq_false, not_false_eq_true]
    rfl
  · rw [if_neg h0]
    obtain ⟨h3, m3, f3, pos3, r1, r2, r3, r4, r5⟩ := c_X7_readsInstruction (sc := sc) hp ⟨⟨num, g2⟩, gp2⟩ (fun k hk => by omega)
    subst r2
    obtain ⟨h', m', f', s1, s2, s3, s4⟩ := l_text (sc := sc) hp 120 0 rfl h3 ((inX c len 0).1, (inX c len 0).2.1, 1, appX 0 (fun _ _ => 0) (row (nI (inX c len 0).2.2.1) ((inX c len 0).2.2.2 0) ((inX c len 0).2.2.2 1) ((inX c len 0).2.2.2 2) 0)) f3 m3 r3 (fun z => by
      have h4 := r4 z
      have h5 := in_ge z (by omega)
      have h6 : m3 = 0 + 1 := h4.1
      subst h6
      refine ⟨rfl, ?_, ?_⟩
      · rw [h4.2, hx0]
      · show 4 * (0 + 1) ≤ (inX c len 0).2.1 + 1
        omega) (fun z => by
      show len ≤ (inX c len 0).2.1 + 120
      omega)
    refine ⟨h', m', f', ?_, s2, s3, (frr.trans r5).trans s4⟩
    rw [← s1]
    have hne : ¬ nI len = 0 := fun z => h0 (nI_inj (by omega) (by omega) z)
    have T32 : ∀ y : Bool, Run sc n_X7_readsText 24 [aD p, aU, aU] none [aI (zI y)] h3 = Run sc n_X7_readsText 35 [aD p, aI (zI y), aI (nI 0)] none [] h3 := by
      intro y
      cases y
      · simp only [e_X7_readsText_24, e_X7_readsText_31, e_X7_readsText_32, zI_0, if_true, if_false, eq_self, not_true_eq_false, not_false_eq_true]
        rfl
      · simp only [e_X7_readsText_24, e_X7_readsText_27, e_X7_readsText_32, zI_0, if_true, if_false, eq_self, not_true_eq_false, not_false_eq_true, reduceCtorEq]
        rfl
    rw [← T32]
    simp only [c0_X7_readsText, e_X7_readsText_0, e_X7_readsText_5, e_X7_readsText_9, e_X7_readsText_13, e_X7_readsText_17, e_X7_readsText_20, q1, q2.f4, e2, g2.f1, hne, bI_t g2.ok, r1, bO_some, bF_I, bF_D, bF_C, bC_v, pk_mul, nI_add, Option.toList, List.cons_append, List.nil_append, zI_0, if_true, if_false, eq_self, not_true_eq_false, not_false_eq_true]
end
