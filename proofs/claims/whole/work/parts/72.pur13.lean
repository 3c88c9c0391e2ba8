/-! PURE 13: frames; a slot is filled; all slots are filled -/
/-- h' is h but for the objects of S, which have kept their sizes -/
def Fr (S : Nat → Prop) (h h' : AH) : Prop := h'.2 = h.2 ∧ h'.1.length = h.1.length ∧ (∀ p, ¬ S p → hget h' p = hget h p) ∧ costS h' = costS h
theorem Fr.rfl {S : Nat → Prop} {h : AH} : Fr S h h := ⟨Eq.refl _, Eq.refl _, fun _ _ => Eq.refl _, Eq.refl _⟩
theorem Fr.trans {S : Nat → Prop} {h h' h'' : AH} (a : Fr S h h') (b : Fr S h' h'') : Fr S h h'' :=
  ⟨b.1.trans a.1, b.2.1.trans a.2.1, fun p hp => (b.2.2.1 p hp).trans (a.2.2.1 p hp), b.2.2.2.trans a.2.2.2⟩
theorem Fr.mono {S T : Nat → Prop} {h h' : AH} (a : Fr S h h') (hh : ∀ p, S p → T p) : Fr T h h' :=
  ⟨a.1, a.2.1, fun p hp => a.2.2.1 p (fun z => hp (hh p z)), a.2.2.2⟩
theorem sum_set (l : List AO) : ∀ (p : Nat) (o o' : AO), l[p]? = some o' → osize o = osize o' → ((l.set p o).map osize).sum = (l.map osize).sum := by
  induction l with
  | nil => exact fun p o o' h1 => by cases h1
  | cons a l ih =>
    intro p o o' h1 h2
    cases p with
    | zero =>
      have h3 : a = o' := Option.some.inj h1
      subst h3
      show osize o + _ = osize a + _
      rw [h2]
    | succ p =>
      have h3 := ih p o o' h1 h2
      exact congrArg (fun z => osize a + z) h3
theorem fr_set {h : AH} {p : Nat} {o o' : AO} (e : hget h p = some o') (hs : osize o = osize o') : Fr (fun x => x = p) h (hset h p o) := by
  refine ⟨rfl, List.length_set .., fun q hq => hget_ne hq, ?_⟩
  unfold costS
  show ((h.1.set p o).map osize).sum + 6 * h.2 = _
  rw [sum_set h.1 p o o' e hs]
section
variable {sc : SC} {h h' : AH} {p q t N n b i k m e : Nat} {f f' l r w s l' r' w' s' : Nat → Int32} {x : Int32} {v3 : AV} {S : Nat → Prop}
theorem PG.fr (g : PG h p N n f) : Fr (fun x => x = p ∨ x = p + 1) h (pset h p N m f') := by
  have h1 : hget (hset h p (oO 8 [aD (p + 1), aI (nI m)])) (p + 1) = some (oI 0 N f) := by
    rw [hget_ne (by omega)]
    exact g.2.1
  exact ((fr_set (o := oO 8 [aD (p + 1), aI (nI m)]) g.1 rfl).mono (fun _ z => Or.inl z)).trans ((fr_set (o := oI 0 N f') h1 rfl).mono (fun _ z => Or.inr z))
theorem FL.fr (g : FL h t q l r w s) : Fr (fun x => x = t + 1 ∨ x = t + 2 ∨ x = t + 3) h (fset h t l' r' w') := by
  unfold fset
  refine (((fr_set (o := oI 0 61 l') g.2.1 rfl).mono (fun _ z => Or.inl z)).trans ((fr_set (o := oI 0 60 r') (o' := oI 0 60 r) ?_ rfl).mono (fun _ z => Or.inr (Or.inl z)))).trans ((fr_set (o := oI 0 60 w') (o' := oI 0 60 w) ?_ rfl).mono (fun _ z => Or.inr (Or.inr z)))
  · rw [hget_ne (by omega)]
    exact g.2.2.1
  · rw [hget_ne (by omega), hget_ne (by omega)]
    exact g.2.2.2.1
theorem FL.frR (g : FL h t q l r w s) : Fr (fun x => x = t + 4) h (rset h t s') := fr_set g.2.2.2.2 rfl
theorem PG.keep (g : PG h p N n f) (hf : Fr S h h') (h1 : ¬ S p) (h2 : ¬ S (p + 1)) : PG h' p N n f := ⟨(hf.2.2.1 p h1).trans g.1, (hf.2.2.1 _ h2).trans g.2.1, g.2.2⟩
theorem FL.keep (g : FL h t q l r w s) (hf : Fr S h h') (h0 : ¬ S t) (h1 : ¬ S (t + 1)) (h2 : ¬ S (t + 2)) (h3 : ¬ S (t + 3)) (h4 : ¬ S (t + 4)) : FL h' t q l r w s := ⟨(hf.2.2.1 _ h0).trans g.1, (hf.2.2.1 _ h1).trans g.2.1, (hf.2.2.1 _ h2).trans g.2.2.1, (hf.2.2.1 _ h3).trans g.2.2.2.1, (hf.2.2.1 _ h4).trans g.2.2.2.2⟩
theorem FI.keep (g : FI h p q t) (hf : Fr S h h') (h0 : ¬ S p) : FI h' p q t := (hf.2.2.1 _ h0).trans g
theorem nI_inj {a b : Nat} (ha : a < 2 ^ 31) (hb : b < 2 ^ 31) (hh : nI a = nI b) : a = b := by
  have h1 := congrArg Int32.toNatClampNeg hh
  rw [nI_clamp ha, nI_clamp hb] at h1
  exact h1
theorem mv_ok {X : Nat → Nat → Int32} {way : Nat} (hw : WF n X) (hn : n < 99) (hb : b < n) (hk : kBr (kx X b) = true) (he : e < n) (hc : cfK (kx X e) = true) (hs : ¬ way = 1 → slX X e = false) (h0 : way = 0 → e < b) (hfall : ¬ way = 0 → ¬ way = 1 → b + 1 < e) : WF (mvN n way) (mvX X n b way e) ∧ kBr (kx (mvX X n b way e) (mvB b way)) = true ∧ mvB b way < mvN n way ∧ mvN n way - mvB b way ≤ n - b := by
  have c1 := cfK_br hc
  have hb2 := hw.2.2.1 b hb hk
  unfold mvX mvN mvB
  by_cases h1 : way = 1
  · have h2 : ¬ way = 0 := by omega
    rw [if_pos h1, if_pos h1, if_neg h2]
    refine ⟨?_, ?_, hb, Nat.le_refl _⟩
    · have h3 := WF_cp hw hb hk he hc (if kCo (kx X b) = true then nI 1 else nI 0) (by
        split
        · rename_i h4
          exact Or.inr ⟨rfl, h4⟩
        · exact Or.inl rfl)
      have h5 := WF_tg (b := b) (t := e + 1) h3 (by rw [kx_pt (by omega), kx_cp, if_neg (by omega)]; exact hk) (by omega) hn
      have h6 : ptX (ptX (cpI X e (b + 1)) b 4 (if kCo (kx X b) = true then nI 1 else nI 0)) b 3 (nI (e + 1)) = ptX (ptX (cpI X e (b + 1)) b 3 (nI (e + 1))) b 4 (if kCo (kx X b) = true then nI 1 else nI 0) := by
        funext i w
        simp only [pt_at]
        by_cases h7 : i = b ∧ w = 3
        · rw [if_pos h7, if_neg (by omega), if_pos h7]
        · rw [if_neg h7, if_neg h7]
      rw [← h6]
      exact h5
    · rw [kx_pt (by omega), kx_pt (by omega), kx_cp, if_neg (by omega)]
      exact hk
  · rw [if_neg h1, if_neg h1]
    have h3 := WF_cp hw hb hk he hc (nI 0) (Or.inl rfl)
    have h4 : kBr (kx (ptX (cpI X e (b + 1)) b 4 (nI 0)) e) = false := by
      rw [kx_pt (by omega), kx_cp]
      split <;> exact c1.1
    have h5 : slX (ptX (cpI X e (b + 1)) b 4 (nI 0)) e = false := by
      have h6 := hs h1
      unfold slX at h6 ⊢
      rw [kx_pt (by omega), kx_cp]
      split
      · rw [c1.1, Bool.and_false]
      · exact h6
    refine ⟨WF_rm h3 he h4 h5 hn, ?_, ?_⟩
    · rw [kx_dn, kx_rm, kx_pt (by omega), kx_pt (by omega), kx_cp, kx_cp]
      by_cases h7 : way = 0
      · have := h0 h7
        rw [if_pos h7, if_neg (by omega), if_neg (by omega), show b - 1 + 1 = b by omega]
        exact hk
      · have := hfall h7 h1
        rw [if_neg h7, if_pos (by omega), if_neg (by omega)]
        exact hk
    · by_cases h7 : way = 0
      · have := h0 h7
        rw [if_pos h7]
        omega
      · have := hfall h7 h1
        rw [if_neg h7]
        omega
theorem c_X1_move (g : FI h p q t) (gp : PG h q N n f) (hp : q + 1 < p) (hw : WF n (xC n f)) (hb : b < n) (hk : kBr (kx (xC n f) b) = true) (he : e < n) {way : Nat} (hway : way < 3) : ∃ f', Call sc n_X1_move [aD p, aI (nI e), aI (nI b), aI (nI way)] h = some (.inl (some (aI (if way = 0 then nI b - nI 1 else nI b))), pset h q N (mvN n way) f') ∧ xC (mvN n way) f' = mvX (xC n f) n b way e := by
  have hn := gp.n60
  have hN := gp.2.2.1
  have hb2 := hw.2.2.1 b hb hk
  have G := fun m f' => g.keep (gp.fr (m := m) (f' := f')) (show ¬ (p = q ∨ p = q + 1) by omega)
  have f0 := fun m f' => (G m f').f0 (sc := sc)
  have gq := fun f' => gp.to (m := n) (f' := f') hN
  have e1 := c_X6_copyInstruction (sc := sc) gp he hb2
  have P := fun (w : Nat) (hw : w < 5) (f1 : Nat → Int32) (y : Int32) => c_put (sc := sc) (f' := f1) (x := y) gp hN (show b * 5 + w < N by omega)
  have okq := fun f' => bI_t ((gq f').ok (sc := sc))
  unfold mvX mvN
  by_cases h1 : way = 1
  · subst h1
    have hx1 : xC n (upd (cpy f f (e * 5) ((b + 1) * 5) 5) (b * 5 + 3) (nI (e + 1))) = ptX (cpI (xC n f) e (b + 1)) b 3 (nI (e + 1)) := by
      rw [xC_upd hb (by omega), xC_cpyI he hb2]
      rfl
    have hv1 : VK n (xC n (upd (cpy f f (e * 5) ((b + 1) * 5) 5) (b * 5 + 3) (nI (e + 1)))) := by
      rw [hx1]
      exact VK_pt (VK_cp hw.1 he) (by omega)
    have e2 := c_X6_kind (sc := sc) (gq (upd (cpy f f (e * 5) ((b + 1) * 5) 5) (b * 5 + 3) (nI (e + 1)))) hv1 hb
    have hkk : kx (xC n (upd (cpy f f (e * 5) ((b + 1) * 5) 5) (b * 5 + 3) (nI (e + 1)))) b = kx (xC n f) b := by
      rw [hx1, kx_pt (by omega), kx_cp, if_neg (by omega)]
    rw [hkk] at e2
    refine ⟨upd (upd (cpy f f (e * 5) ((b + 1) * 5) 5) (b * 5 + 3) (nI (e + 1))) (b * 5 + 4) (if kCo (kx (xC n f) b) = true then nI 1 else nI 0), ?_, ?_⟩
    · rw [if_pos rfl, if_neg (by omega)]
      simp only [c0_X1_move, e_X1_move_0, e_X1_move_4, e_X1_move_11, e_X1_move_16, e_X1_move_20, e_X1_move_28, e_X1_move_32, e_X1_move_38, e_X1_move_42, e_X1_move_45, g.f0, bI_t gp.ok, f0, okq, e1, e2, P 3 (by omega), kf_co (hw.1 b hb).2, bO_some, bF_I, bF_D, bF_C, bC_v, pk_mul, nI_add, Option.toList, List.cons_append, List.nil_append, zI_0, if_true, if_false, eq_self, not_true_eq_false, not_false_eq_true]
      by_cases hc : kCo (kx (xC n f) b) = true
      · simp only [hc, e_X1_move_48, e_X1_move_53, e_X1_move_56, okq, P 4 (by omega), bO_some, bF_I, bF_D, bF_C, bC_v, pk_mul, nI_add, Option.toList, List.cons_append, List.nil_append, zI_0, if_true, if_false, eq_self, not_true_eq_false, not_false_eq_true, reduceCtorEq]
      · have hc' := hc
        rw [Bool.not_eq_true] at hc'
        simp only [hc', e_X1_move_52, e_X1_move_53, e_X1_move_56, okq, P 4 (by omega), bO_some, bF_I, bF_D, bF_C, bC_v, pk_mul, nI_add, Option.toList, List.cons_append, List.nil_append, zI_0, if_true, if_false, eq_self, not_true_eq_false, not_false_eq_true, reduceCtorEq]
    · rw [if_pos rfl, if_pos rfl, xC_upd hb (by omega), hx1]
  · have hx1 : xC n (upd (cpy f f (e * 5) ((b + 1) * 5) 5) (b * 5 + 4) (nI 0)) = ptX (cpI (xC n f) e (b + 1)) b 4 (nI 0) := by
      rw [xC_upd hb (by omega), xC_cpyI he hb2]
      rfl
    have hv1 : VK n (xC n (upd (cpy f f (e * 5) ((b + 1) * 5) 5) (b * 5 + 4) (nI 0))) := by
      rw [hx1]
      exact VK_pt (VK_cp hw.1 he) (by omega)
    obtain ⟨f', e2, e3⟩ := c_X6_remove (sc := sc) (gq (upd (cpy f f (e * 5) ((b + 1) * 5) 5) (b * 5 + 4) (nI 0))) hv1 he
    rw [pset_pset] at e2
    rw [hx1] at e3
    refine ⟨f', ?_, ?_⟩
    · have h2 : ¬ nI way = nI 1 := fun z => h1 (nI_inj (by omega) (by omega) z)
      rw [if_neg h1]
      simp only [c0_X1_move, e_X1_move_0, e_X1_move_4, e_X1_move_11, e_X1_move_58, e_X1_move_62, e_X1_move_68, e_X1_move_72, e_X1_move_76, g.f0, bI_t gp.ok, f0, okq, e1, e2, h2, P 4 (by omega), bO_some, bF_I, bF_D, bF_C, bC_v, pk_mul, nI_add, Option.toList, List.cons_append, List.nil_append, zI_0, if_true, if_false, eq_self, not_true_eq_false, not_false_eq_true]
      by_cases h3 : way = 0
      · subst h3
        simp only [show (nI 0 = 0) = True from eq_true (by decide), e_X1_move_80, e_X1_move_87, zI_0, if_true, if_false, eq_self, not_true_eq_false, not_false_eq_true]
      · have h4 : ¬ nI way = 0 := fun z => h3 (nI_inj (by omega) (by omega) z)
        simp only [h4, h3, e_X1_move_86, e_X1_move_87, zI_0, if_true, if_false, eq_self, not_true_eq_false, not_false_eq_true]
    · rw [if_neg h1, if_neg h1]
      exact e3
end
