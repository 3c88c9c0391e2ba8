/-! PURE 14: all slots are filled -/
abbrev FS : Type := Nat × (Nat → Nat → Int32) × Nat × Nat
def tnX (way : Nat) (st : FS) : FS := if kx st.2.1 (st.2.2.1 + 1) = 0 then (match fdX st.2.1 st.1 st.2.2.1 way with
  | none => st
  | some e => (mvN st.1 way, mvX st.2.1 st.1 st.2.2.1 way e, mvB st.2.2.1 way, st.2.2.2 + 1)) else st
def wy (w1 w2 w3 i : Nat) : Nat := if i = 0 then w1 else if i = 1 then w2 else w3
def trX (w1 w2 w3 : Nat) : Nat → Nat → FS → FS
  | 0, _, st => st
  | d + 1, i, st => trX w1 w2 w3 d (i + 1) (tnX (wy w1 w2 w3 i) st)
def faX (w1 w2 w3 : Nat) : Nat → FS → FS
  | 0, st => st
  | d + 1, st => if st.2.2.1 < st.1 then (if kBr (kx st.2.1 st.2.2.1) = true then faX w1 w2 w3 d ((trX w1 w2 w3 3 0 st).1, (trX w1 w2 w3 3 0 st).2.1, (trX w1 w2 w3 3 0 st).2.2.1 + 2, (trX w1 w2 w3 3 0 st).2.2.2) else faX w1 w2 w3 d (st.1, st.2.1, st.2.2.1 + 1, st.2.2.2)) else st
/-- a state of the filling at a branch -/
def BS (st : FS) : Prop := WF st.1 st.2.1 ∧ st.2.2.1 < st.1 ∧ kBr (kx st.2.1 st.2.2.1) = true ∧ st.1 ≤ 60
theorem tr_stay {w1 w2 w3 : Nat} {st : FS} (hh : ¬ kx st.2.1 (st.2.2.1 + 1) = 0) : ∀ d i, trX w1 w2 w3 d i st = st := by
  intro d
  induction d with
  | zero => exact fun _ => rfl
  | succ d ih =>
    intro i
    show trX w1 w2 w3 d (i + 1) (tnX (wy w1 w2 w3 i) st) = st
    unfold tnX
    rw [if_neg hh]
    exact ih (i + 1)
theorem fd_fall {X : Nat → Nat → Int32} {n b way e : Nat} (h0 : ¬ way = 0) (h1 : ¬ way = 1) (hh : fdX X n b way = some e) : b + 1 < e := by
  unfold fdX at hh
  rw [if_neg h0, if_neg h1] at hh
  unfold ftX at hh
  split at hh
  · cases hh
  · split at hh
    · cases hh
    · split at hh
      · have h4 : b + 2 = e := Option.some.inj hh
        omega
      · cases hh
theorem tn_ok {way : Nat} {st : FS} (hs : BS st) : BS (tnX way st) ∧ (tnX way st).1 - (tnX way st).2.2.1 ≤ st.1 - st.2.2.1 := by
  unfold tnX
  split
  · split
    · exact ⟨hs, Nat.le_refl _⟩
    · rename_i e he
      obtain ⟨h1, h2, h3, h4⟩ := hs
      have h5 := fd_ok h2 h1 h3 he
      have h6 := mv_ok h1 (by omega) h2 h3 h5.1 h5.2.1 h5.2.2.1 h5.2.2.2 (fun z1 z2 => fd_fall z1 z2 he)
      refine ⟨⟨h6.1, h6.2.2.1, h6.2.1, ?_⟩, h6.2.2.2⟩
      show mvN st.1 way ≤ 60
      unfold mvN
      split <;> omega
  · exact ⟨hs, Nat.le_refl _⟩
theorem tr_ok {w1 w2 w3 : Nat} : ∀ d i (st : FS), BS st → BS (trX w1 w2 w3 d i st) ∧ (trX w1 w2 w3 d i st).1 - (trX w1 w2 w3 d i st).2.2.1 ≤ st.1 - st.2.2.1 := by
  intro d
  induction d with
  | zero => exact fun i st hs => ⟨hs, Nat.le_refl _⟩
  | succ d ih =>
    intro i st hs
    have h1 := tn_ok (way := wy w1 w2 w3 i) hs
    have h2 := ih (i + 1) _ h1.1
    exact ⟨h2.1, Nat.le_trans h2.2 h1.2⟩
/-- the filler, its flow and its program in the heap -/
def CS (h : AH) (p q t N : Nat) (s : Nat → Int32) (n : Nat) (X : Nat → Nat → Int32) : Prop := FI h p q t ∧ ∃ l r w f, FL h t q l r w s ∧ PG h q N n f ∧ xC n f = X
def SF (q t : Nat) : Nat → Prop := fun x => x = q ∨ x = q + 1 ∨ x = t + 1 ∨ x = t + 2 ∨ x = t + 3
section
variable {sc : SC} {h h' : AH} {p q t N n b i k m e : Nat} {s : Nat → Int32} {x x4 x6 : Int32} {v3 v8 v9 : AV} {w1 w2 w3 : Nat}
theorem enc_ne {a : Nat} (ha : a < 2 ^ 31) : ¬ nI a = -1 := by
  intro h1
  have h2 := congrArg Int32.toInt h1
  rw [nI_toInt ha] at h2
  have h3 : (-1 : Int32).toInt = -1 := by decide
  omega
theorem l_turns (hw1 : w1 < 3) (hw2 : w2 < 3) (hw3 : w3 < 3) (hqt : q + 1 < t) (htp : t + 4 < p) : ∀ d i, i + d = 3 → ∀ h (st : FS) v8 v9, CS h p q t N s st.1 st.2.1 → BS st → ∃ h' v7 v8' v9', Run sc n_X1_fillEach 37 [aD p, aI (nI w1), aI (nI w2), aI (nI w3), aI (nI st.2.2.2), aI (nI st.2.2.1), aI x6, aI (nI i), v8, v9] none [] h = Run sc n_X1_fillEach 114 [aD p, aI (nI w1), aI (nI w2), aI (nI w3), aI (nI (trX w1 w2 w3 d i st).2.2.2), aI (nI (trX w1 w2 w3 d i st).2.2.1), aI x6, aI v7, v8', v9'] none [] h' ∧ CS h' p q t N s (trX w1 w2 w3 d i st).1 (trX w1 w2 w3 d i st).2.1 ∧ Fr (SF q t) h h' := by
  intro d
  induction d with
  | zero =>
    intro i hi h st v8 v9 hc hs
    refine ⟨h, nI i, v8, v9, ?_, hc, Fr.rfl⟩
    rw [e_X1_fillEach_37, if_pos (nI_le (by omega) (by omega))]
    rfl
  | succ d ih =>
    intro i hi h st v8 v9 hc hs
    obtain ⟨n, X, b, c⟩ := st
    obtain ⟨g, l, r, w, f, gf, gp, hx⟩ := hc
    obtain ⟨hw, hb, hk, hn⟩ := hs
    simp only at g gf gp hx hw hb hk hn
    subst hx
    have h1 : ¬ nI 3 ≤ nI i := nI_ge (by omega) (by omega)
    have e1 := c_X6_hasEmptySlot (sc := sc) gp hw.1 hb (hw.2.2.1 b hb)
    have hb2 := hw.2.2.1 b hb hk
    simp only [e_X1_fillEach_37, e_X1_fillEach_43, e_X1_fillEach_47, e_X1_fillEach_52, h1, g.f0, bI_t gp.ok, e1, bO_some, bF_I, bF_D, bF_C, bC_v, pk_mul, nI_add, Option.toList, List.cons_append, List.nil_append, zI_0, if_true, if_false, eq_self, not_true_eq_false, not_false_eq_true]
    by_cases hnop : kx (xC n f) (b + 1) = 0
    · have hes : esX (xC n f) b = true := by
        unfold esX
        rw [hk, hnop]
        rfl
      have hway : wy w1 w2 w3 i < 3 := by
        unfold wy
        split
        · exact hw1
        · split
          · exact hw2
          · exact hw3
      have t75 : ∀ v8 v9, Run sc n_X1_fillEach 55 [aD p, aI (nI w1), aI (nI w2), aI (nI w3), aI (nI c), aI (nI b), aI x6, aI (nI i), v8, v9] none [] h = Run sc n_X1_fillEach 75 [aD p, aI (nI w1), aI (nI w2), aI (nI w3), aI (nI c), aI (nI b), aI x6, aI (nI i), v8, v9] none [aI (nI (wy w1 w2 w3 i))] h := by
        intro v8 v9
        have h3 : i = 0 ∨ i = 1 ∨ i = 2 := by omega
        rcases h3 with rfl | rfl | rfl
        · simp only [e_X1_fillEach_55, e_X1_fillEach_60, show (nI 0 = 0) = True from eq_true (by decide), zI_0, if_true, if_false, eq_self, not_true_eq_false, not_false_eq_true]
          rfl
        · simp only [e_X1_fillEach_55, e_X1_fillEach_64, e_X1_fillEach_70, show ¬ nI 1 = 0 from by decide, zI_0, if_true, if_false, eq_self, not_true_eq_false, not_false_eq_true]
          rfl
        · simp only [e_X1_fillEach_55, e_X1_fillEach_64, e_X1_fillEach_74, show ¬ nI 2 = 0 from by decide, show ¬ nI 2 = nI 1 from by decide, zI_0, if_true, if_false, eq_self, not_true_eq_false, not_false_eq_true]
          rfl
      obtain ⟨l', r', w', e2⟩ := c_X1_find (sc := sc) g htp gf gp hqt hw.1 hw.2.1 hw.2.2.1 hb hk hway
      have g1 := g.fl (l := l') (r := r') (w := w') htp
      have gp1 := gp.fl (l := l') (r := r') (w := w') hqt
      have gf1 := gf.to (l' := l') (r' := r') (w' := w')
      have fr1 : Fr (SF q t) h (fset h t l' r' w') := gf.fr.mono (fun y z => by
        unfold SF
        omega)
      simp only [hes, zI_0, if_true, if_false, eq_self, not_true_eq_false, not_false_eq_true, reduceCtorEq, t75, e_X1_fillEach_75, e_X1_fillEach_85, bI_t g.ok, e2, bO_some, bF_I, bF_D, bF_C, bC_v, pk_mul, nI_add, Option.toList, List.cons_append, List.nil_append]
      have htn : trX w1 w2 w3 (d + 1) i (n, xC n f, b, c) = trX w1 w2 w3 d (i + 1) (tnX (wy w1 w2 w3 i) (n, xC n f, b, c)) := rfl
      rw [htn]
      cases hf : fdX (xC n f) n b (wy w1 w2 w3 i) with
      | none =>
        have h4 : tnX (wy w1 w2 w3 i) (n, xC n f, b, c) = (n, xC n f, b, c) := by
          unfold tnX
          simp only [hnop, hf, if_true]
        obtain ⟨h', v7, v8', v9', q1, q2, q3⟩ := ih (i + 1) (by omega) (fset h t l' r' w') (n, xC n f, b, c) (aI (nI (wy w1 w2 w3 i))) (aI (enc none)) ⟨g1, l', r', w', f, gf1, gp1, rfl⟩ ⟨hw, hb, hk, hn⟩
        refine ⟨h', v7, v8', v9', ?_, ?_, fr1.trans q3⟩
        · rw [h4, ← q1]
          simp only [enc, e_X1_fillEach_108, bO_some, bF_I, bF_D, bF_C, bC_v, pk_mul, nI_add, Option.toList, List.cons_append, List.nil_append, zI_0, if_true, if_false, eq_self, not_true_eq_false, not_false_eq_true]
        · rw [h4]
          exact q2
      | some e =>
        have h5 := fd_ok hb hw hk hf
        have h6 := mv_ok hw (by omega) hb hk h5.1 h5.2.1 h5.2.2.1 h5.2.2.2 (fun z1 z2 => fd_fall z1 z2 hf)
        obtain ⟨f', e3, e4⟩ := c_X1_move (sc := sc) g1 gp1 (by omega) hw hb hk h5.1 hway
        have h4 : tnX (wy w1 w2 w3 i) (n, xC n f, b, c) = (mvN n (wy w1 w2 w3 i), mvX (xC n f) n b (wy w1 w2 w3 i) e, mvB b (wy w1 w2 w3 i), c + 1) := by
          unfold tnX
          simp only [hnop, hf, if_true]
        have hN : mvN n (wy w1 w2 w3 i) * 5 ≤ N := by
          have := gp.2.2.1
          unfold mvN
          split <;> omega
        have fr2 : Fr (SF q t) (fset h t l' r' w') (pset (fset h t l' r' w') q N (mvN n (wy w1 w2 w3 i)) f') := gp1.fr.mono (fun y z => by
          unfold SF
          omega)
        have g2 := g1.keep (gp1.fr (m := mvN n (wy w1 w2 w3 i)) (f' := f')) (show ¬ (p = q ∨ p = q + 1) by omega)
        have gf2 := gf1.keep (gp1.fr (m := mvN n (wy w1 w2 w3 i)) (f' := f')) (show ¬ (t = q ∨ t = q + 1) by omega) (show ¬ (t + 1 = q ∨ t + 1 = q + 1) by omega) (show ¬ (t + 2 = q ∨ t + 2 = q + 1) by omega) (show ¬ (t + 3 = q ∨ t + 3 = q + 1) by omega) (show ¬ (t + 4 = q ∨ t + 4 = q + 1) by omega)
        have gp2 := gp1.to (f' := f') hN
        have hbq : (if wy w1 w2 w3 i = 0 then nI b - nI 1 else nI b) = nI (mvB b (wy w1 w2 w3 i)) := by
          unfold mvB
          split
          · rename_i h7
            have := h5.2.2.2 h7
            rw [pk_sub (by omega)]
          · rfl
        rw [hbq] at e3
        obtain ⟨h', v7, v8', v9', q1, q2, q3⟩ := ih (i + 1) (by omega) (pset (fset h t l' r' w') q N (mvN n (wy w1 w2 w3 i)) f') (mvN n (wy w1 w2 w3 i), mvX (xC n f) n b (wy w1 w2 w3 i) e, mvB b (wy w1 w2 w3 i), c + 1) (aI (nI (wy w1 w2 w3 i))) (aI (nI e)) ⟨g2, l', r', w', f', gf2, gp2, e4⟩ ⟨h6.1, h6.2.2.1, h6.2.1, by show mvN n _ ≤ 60; unfold mvN; split <;> omega⟩
        refine ⟨h', v7, v8', v9', ?_, ?_, fr1.trans (fr2.trans q3)⟩
        · rw [h4, ← q1]
          simp only [enc, enc_ne (show e < 2 ^ 31 by omega), e_X1_fillEach_93, e_X1_fillEach_103, e_X1_fillEach_108, bI_t g1.ok, e3, bO_some, bF_I, bF_D, bF_C, bC_v, pk_mul, nI_add, Option.toList, List.cons_append, List.nil_append, zI_0, if_true, if_false, eq_self, not_true_eq_false, not_false_eq_true]
        · rw [h4]
          exact q2
    · have hes : esX (xC n f) b = false := by
        unfold esX
        rw [beq_f hnop, Bool.and_false]
      refine ⟨h, nI i, v8, v9, ?_, ?_, Fr.rfl⟩
      · rw [tr_stay (st := (n, xC n f, b, c)) hnop]
        simp only [hes, zI_0, if_true, if_false, eq_self, not_true_eq_false, not_false_eq_true, reduceCtorEq]
      · rw [tr_stay (st := (n, xC n f, b, c)) hnop]
        exact ⟨g, l, r, w, f, gf, gp, rfl⟩
theorem l_fillEach (hw1 : w1 < 3) (hw2 : w2 < 3) (hw3 : w3 < 3) (hqt : q + 1 < t) (htp : t + 4 < p) : ∀ d i, i + d = 60 → ∀ h (st : FS) v7 v8 v9, CS h p q t N s st.1 st.2.1 → WF st.1 st.2.1 → st.1 ≤ 60 → st.2.2.1 < 2 ^ 30 → st.1 ≤ st.2.2.1 + d → ∃ h', Run sc n_X1_fillEach 15 [aD p, aI (nI w1), aI (nI w2), aI (nI w3), aI (nI st.2.2.2), aI (nI st.2.2.1), aI (nI i), v7, v8, v9] none [] h = some (.inl (some (aI (nI (faX w1 w2 w3 d st).2.2.2))), h') ∧ CS h' p q t N s (faX w1 w2 w3 d st).1 (faX w1 w2 w3 d st).2.1 ∧ WF (faX w1 w2 w3 d st).1 (faX w1 w2 w3 d st).2.1 ∧ (faX w1 w2 w3 d st).1 ≤ 60 ∧ Fr (SF q t) h h' := by
  intro d
  induction d with
  | zero =>
    intro i hi h st v7 v8 v9 hc hs hn hbb hd
    refine ⟨h, ?_, hc, hs, hn, Fr.rfl⟩
    rw [e_X1_fillEach_15, if_pos (nI_le (by omega) (by omega)), e_X1_fillEach_142]
    rfl
  | succ d ih =>
    intro i hi h st v7 v8 v9 hc hs hn hbb hd
    obtain ⟨n, X, b, c⟩ := st
    simp only at hc hs hn hbb hd
    have h1 : ¬ nI 60 ≤ nI i := nI_ge (by omega) (by omega)
    have hc0 := hc
    obtain ⟨g, l, r, w, f, gf, gp, hx⟩ := hc
    subst hx
    by_cases hb : b < n
    · have h2 : ¬ nI n ≤ nI b := nI_ge hb (by omega)
      by_cases hk : kBr (kx (xC n f) b) = true
      · obtain ⟨h', x7, v8', v9', q1, q2, q3⟩ := l_turns (sc := sc) (x6 := nI i) hw1 hw2 hw3 hqt htp 3 0 rfl h (n, xC n f, b, c) v8 v9 hc0 ⟨hs, hb, hk, hn⟩
        obtain ⟨⟨r1, r2, r3, r4⟩, r5⟩ := tr_ok (w1 := w1) (w2 := w2) (w3 := w3) 3 0 (n, xC n f, b, c) ⟨hs, hb, hk, hn⟩
        have hfa : faX w1 w2 w3 (d + 1) (n, xC n f, b, c) = faX w1 w2 w3 d ((trX w1 w2 w3 3 0 (n, xC n f, b, c)).1, (trX w1 w2 w3 3 0 (n, xC n f, b, c)).2.1, (trX w1 w2 w3 3 0 (n, xC n f, b, c)).2.2.1 + 2, (trX w1 w2 w3 3 0 (n, xC n f, b, c)).2.2.2) := by
          show (if b < n then (if kBr (kx (xC n f) b) = true then _ else _) else _) = _
          rw [if_pos hb, if_pos hk]
        rw [hfa]
        generalize trX w1 w2 w3 3 0 (n, xC n f, b, c) = st' at *
        obtain ⟨n', X', b', c'⟩ := st'
        simp only at q1 q2 r1 r2 r3 r4 r5
        obtain ⟨h'', s1, s2, s3, s4, s5⟩ := ih (i + 1) (by omega) h' (n', X', b' + 2, c') (aI x7) v8' v9' q2 r1 r4 (by show b' + 2 < 2 ^ 30; omega) (by show n' ≤ b' + 2 + d; omega)
        obtain ⟨g', l', r', w', f', gf', gp', hx'⟩ := q2
        subst hx'
        have e9 := c_X6_isBranch (sc := sc) gp' r1.1 r2
        refine ⟨h'', ?_, s2, s3, s4, q3.trans s5⟩
        rw [← s1]
        simp only [e_X1_fillEach_15, e_X1_fillEach_22, e_X1_fillEach_28, e_X1_fillEach_31, e_X1_fillEach_34, h1, h2, g.f0, gp.f1, bO_some, bF_I, bF_D, bF_C, bC_v, pk_mul, nI_add, Option.toList, List.cons_append, List.nil_append, zI_0, if_true, if_false, eq_self, not_true_eq_false, not_false_eq_true]
        rw [q1]
        rw [e_X1_fillEach_114]
        simp only [e_X1_fillEach_120, e_X1_fillEach_125, e_X1_fillEach_128, e_X1_fillEach_133, g'.f0, bI_t gp'.ok, e9, r3, bO_some, bF_I, bF_D, bF_C, bC_v, pk_mul, nI_add, Option.toList, List.cons_append, List.nil_append, zI_0, if_true, if_false, eq_self, not_true_eq_false, not_false_eq_true, reduceCtorEq]
        rw [e_X1_fillEach_15]
      · have hk' := hk
        rw [Bool.not_eq_true] at hk'
        have hes : esX (xC n f) b = false := by
          unfold esX
          rw [hk', Bool.false_and]
        have hfa : faX w1 w2 w3 (d + 1) (n, xC n f, b, c) = faX w1 w2 w3 d (n, xC n f, b + 1, c) := by
          show (if b < n then (if kBr (kx (xC n f) b) = true then _ else _) else _) = _
          rw [if_pos hb, if_neg hk]
        rw [hfa]
        have e1 := c_X6_hasEmptySlot (sc := sc) gp hs.1 hb (hs.2.2.1 b hb)
        have e9 := c_X6_isBranch (sc := sc) gp hs.1 hb
        obtain ⟨h'', s1, s2, s3, s4, s5⟩ := ih (i + 1) (by omega) h (n, xC n f, b + 1, c) (aI (nI 0)) v8 v9 hc0 hs hn (by show b + 1 < 2 ^ 30; omega) (by show n ≤ b + 1 + d; omega)
        refine ⟨h'', ?_, s2, s3, s4, s5⟩
        rw [← s1, e_X1_fillEach_15]
        simp only [e_X1_fillEach_22, e_X1_fillEach_28, e_X1_fillEach_31, e_X1_fillEach_34, e_X1_fillEach_37, e_X1_fillEach_43, e_X1_fillEach_47, e_X1_fillEach_52, e_X1_fillEach_114, e_X1_fillEach_120, e_X1_fillEach_125, e_X1_fillEach_132, e_X1_fillEach_133, h1, h2, show ¬ nI 3 ≤ nI 0 from by decide, g.f0, gp.f1, bI_t gp.ok, e1, e9, hes, hk', bO_some, bF_I, bF_D, bF_C, bC_v, pk_mul, nI_add, Option.toList, List.cons_append, List.nil_append, zI_0, if_true, if_false, eq_self, not_true_eq_false, not_false_eq_true, reduceCtorEq]
    · have h2 : nI n ≤ nI b := nI_le (by omega) (by omega)
      have hfa : faX w1 w2 w3 (d + 1) (n, xC n f, b, c) = (n, xC n f, b, c) := by
        show (if b < n then (if kBr (kx (xC n f) b) = true then _ else _) else _) = _
        rw [if_neg hb]
      rw [hfa]
      refine ⟨h, ?_, hc0, hs, hn, Fr.rfl⟩
      simp only [e_X1_fillEach_15, e_X1_fillEach_22, e_X1_fillEach_28, e_X1_fillEach_31, e_X1_fillEach_142, h1, h2, g.f0, gp.f1, bO_some, bF_I, bF_D, bF_C, bC_v, pk_mul, nI_add, Option.toList, List.cons_append, List.nil_append, zI_0, if_true, if_false, eq_self, not_true_eq_false, not_false_eq_true]
theorem c_X1_fillEach (hw1 : w1 < 3) (hw2 : w2 < 3) (hne : ¬ w1 = w2) (hqt : q + 1 < t) (htp : t + 4 < p) {X : Nat → Nat → Int32} (hc : CS h p q t N s n X) (hs : WF n X) (hn : n ≤ 60) : ∃ h', Call sc n_X1_fillEach [aD p, aI (nI w1), aI (nI w2)] h = some (.inl (some (aI (nI (faX w1 w2 (3 - w1 - w2) 60 (n, X, 0, 0)).2.2.2))), h') ∧ CS h' p q t N s (faX w1 w2 (3 - w1 - w2) 60 (n, X, 0, 0)).1 (faX w1 w2 (3 - w1 - w2) 60 (n, X, 0, 0)).2.1 ∧ WF (faX w1 w2 (3 - w1 - w2) 60 (n, X, 0, 0)).1 (faX w1 w2 (3 - w1 - w2) 60 (n, X, 0, 0)).2.1 ∧ (faX w1 w2 (3 - w1 - w2) 60 (n, X, 0, 0)).1 ≤ 60 ∧ Fr (SF q t) h h' := by
  have h1 := l_fillEach (sc := sc) (s := s) (N := N) hw1 hw2 (show 3 - w1 - w2 < 3 by omega) hqt htp 60 0 rfl h (n, X, 0, 0) aU aU aU hc hs hn (by show 0 < 2 ^ 30; omega) (by show n ≤ 0 + 60; omega)
  rw [c0_X1_fillEach, e_X1_fillEach_0, pk_sub (show w1 ≤ 3 by omega), pk_sub (show w2 ≤ 3 - w1 by omega)]
  exact h1
end
