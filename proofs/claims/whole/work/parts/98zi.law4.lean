/-! PURE 82: both sides after the calls with a long as the answer, II -/
section
variable {len sn n ch m : Nat} {c ini φ φ' v o : Nat → Int32} {X SX ρ ρ' : Nat → Nat → Int32} {H : HTy} {L : List Int32} {K : KTy} {V : VTy}
theorem RI.run (hr : RI φ ρ len c L sn SX n X ch H ini K V) (h22 : φ' 22 = zI true) (h25 : φ' 25 = nI m) (h64 : ∀ j, j < 24 → ρ' 63 j = v j) (h65 : ∀ j, j < m → ρ' 64 j = o j) (hφ : φ' 2 = φ 2 ∧ φ' 5 = φ 5 ∧ φ' 7 = φ 7 ∧ φ' 16 = φ 16 ∧ φ' 30 = φ 30 ∧ φ' 32 = φ 32) (hρ : ∀ q, q < 61 ∨ 64 < q → ρ' q = ρ q) : RI φ' ρ' len c L sn SX n X ch H ini (some (v, o, m)) V := by
  obtain ⟨a1, a2, a3, a4, a5, a6⟩ := hφ
  obtain ⟨b1, b2, b3, b4, b5, _, b7⟩ := hr
  unfold RI
  rw [a1, a2, a3, a4, a5, a6, hρ 52 (by omega), hρ 53 (by omega), hρ 54 (by omega), hρ 55 (by omega), hρ 59 (by omega), hρ 60 (by omega), hρ 68 (by omega), hρ 69 (by omega), hρ 70 (by omega)]
  refine ⟨b1, b2, b3, b4, b5, ⟨h22, fun k hk => ?_⟩, b7⟩
  have := Option.some.inj hk
  subst this
  exact ⟨h25, h64, h65⟩
theorem xS_cg {n : Nat} {g g' : Nat → Int32} (hn : n ≤ 30) (hg : ∀ j, j < 120 → g j = g' j) : xS n g = xS n g' := by
  funext i w
  show (if i < n ∧ w < 4 then g (4 * i + w) else 0) = (if i < n ∧ w < 4 then g' (4 * i + w) else 0)
  by_cases hh : i < n ∧ w < 4
  · rw [if_pos hh, if_pos hh, hg _ (by omega)]
  · rw [if_neg hh, if_neg hh]
theorem cpy_z (f g : Nat → Int32) (N j : Nat) (hj : j < N) : cpy f g 0 0 N j = f j := by
  rw [cpy_eq, if_pos (by omega), show 0 + (j - 0) = j by omega]
end
section
variable {sc : SC} {h : AH} {i : Nat}
theorem J_fill (g : INV h i) (x y : Int32) : JB sc (i + 1) (Call sc n_L_fill [aD 0, aI x, aI y, aD 71] h) (fun h1 => Call sc n_X10_fill [aD 51, aI x, aI y] h1) := by
  obtain ⟨he, ho, φ, ρ, len, c, L, sn, SX, n, X, ch, H, ini, K, V, gr, gc, ri, va⟩ := g; obtain ⟨⟨r7, r56⟩, ⟨r16, r60⟩, ⟨r2, r53⟩, ⟨r54, rX, r5, rH⟩, r61, ⟨r22, rK⟩, ⟨r30, rV⟩⟩ := id ri; obtain ⟨vlen, ⟨vL, vA⟩, ⟨vsn, vsg⟩, ⟨vn, vw⟩, ⟨vch, vH⟩, vK, vV⟩ := id va; subst rX; subst r53; subst r56; obtain ⟨km, ks, bo⟩ := gc.bo
  rcases k_fill (sc := sc) gc vn vw x y with ⟨hc, E, h1, q1, ⟨q2, q3, p3, p4⟩, q6, e, q4, q5⟩ | ⟨hc, b, way, j, h1, hx, hb, hy, hway, hk, hnop, hf, q1, q2, q3, q4, q5⟩
  · have he1 := q5.1
    rcases r_fill (sc := sc) (h := h1) (φ := φ) (ρ := ρ) r54 vn vw vch r5 x y with ⟨_, l', s1⟩ | ⟨z, _⟩
    · rcases prX_le (xM n (ρ 53)) n x y with hcd | hcd | hcd | hcd | hcd
      · exact absurd hcd hc
      · rw [q2 hcd] at q1
        rw [hcd] at s1
        exact JB_mk (L_fill_x1 bo q1) (by omega) (q5.kps.rh gr) (q5.kps.out ho) q6 s1 rfl (ri.cg ⟨rfl, rfl, rfl, rfl, rfl, rfl, rfl, rfl⟩ ⟨rfl, rfl, rfl, rfl, rfl, rfl, rfl, rfl, rfl, rfl, rfl⟩) va (by omega) (fun z => by cases z)
      · rw [q3 hcd] at q1
        rw [hcd] at s1
        exact JB_mk (L_fill_x2 bo q1) (by omega) (q5.kps.rh gr) (q5.kps.out ho) q6 s1 rfl (ri.cg ⟨rfl, rfl, rfl, rfl, rfl, rfl, rfl, rfl⟩ ⟨rfl, rfl, rfl, rfl, rfl, rfl, rfl, rfl, rfl, rfl, rfl⟩) va (by omega) (fun z => by cases z)
      · rw [p3 hcd] at q1
        rw [hcd] at s1
        exact JB_mk (L_fill_x3 bo q1) (by omega) (q5.kps.rh gr) (q5.kps.out ho) q6 s1 rfl (ri.cg ⟨rfl, rfl, rfl, rfl, rfl, rfl, rfl, rfl⟩ ⟨rfl, rfl, rfl, rfl, rfl, rfl, rfl, rfl, rfl, rfl, rfl⟩) va (by omega) (fun z => by cases z)
      · rw [p4 hcd] at q1
        rw [hcd] at s1
        exact JB_mk (L_fill_x4 bo q1) (by omega) (q5.kps.rh gr) (q5.kps.out ho) q6 s1 rfl (ri.cg ⟨rfl, rfl, rfl, rfl, rfl, rfl, rfl, rfl⟩ ⟨rfl, rfl, rfl, rfl, rfl, rfl, rfl, rfl, rfl, rfl, rfl⟩) va (by omega) (fun z => by cases z)
    · exact absurd z hc
  · obtain ⟨h2, l1, l2, l3, l4⟩ := L_fill_k bo (q3.kps.out ho) q1
    have he1 := q3.1
    rcases r_fill (sc := sc) (h := h2) (φ := φ) (ρ := ρ) r54 vn vw vch r5 x y with ⟨z, _⟩ | ⟨_, b', way', j', l', g', hx', hb', hy', hway', _, _, hf', s1, s2, s3⟩
    · exact absurd hc z
    · have e1 := nI_inj (by omega) (by omega) (hx'.symm.trans hx)
      have e2 := nI_inj (by omega) (by omega) (hy'.symm.trans hy)
      subst e1
      subst e2
      rw [hf] at hf'
      have e3 := Option.some.inj hf'
      subst e3
      have hps := ps_H (H := H) vch vn r54 (fun k hk => ⟨(vH k hk).1, rH k hk⟩)
      have hsv := hs_V (n := n) (X := xM n (ρ 53)) vch ⟨vn, vw⟩ vH
      exact JB_mk l1 (by omega) ((q3.kps.rh gr).s72 l4) l3 (q2.s72 l4) s1 rfl ⟨ri.1, ri.2.1, ri.2.2.1, ⟨s2, s3, rfl, hps⟩, ri.2.2.2.2⟩ ⟨vlen, ⟨vL, vA⟩, ⟨vsn, vsg⟩, ⟨q4, q5⟩, hsv, vK, vV⟩ (by rw [l4.1]; omega) (fun _ => l2)
theorem J_fillAll (g : INV h i) (x y : Int32) : JB sc (i + 1) (Call sc n_L_fillAll [aD 0, aI x, aI y, aD 71] h) (fun h1 => Call sc n_X10_fillAll [aD 51, aI x, aI y] h1) := by
  obtain ⟨he, ho, φ, ρ, len, c, L, sn, SX, n, X, ch, H, ini, K, V, gr, gc, ri, va⟩ := g; obtain ⟨⟨r7, r56⟩, ⟨r16, r60⟩, ⟨r2, r53⟩, ⟨r54, rX, r5, rH⟩, r61, ⟨r22, rK⟩, ⟨r30, rV⟩⟩ := id ri; obtain ⟨vlen, ⟨vL, vA⟩, ⟨vsn, vsg⟩, ⟨vn, vw⟩, ⟨vch, vH⟩, vK, vV⟩ := id va; subst rX; subst r53; subst r56; obtain ⟨km, ks, bo⟩ := gc.bo
  have ex := LK.exc SCl h
  rcases k_fillAll (sc := sc) gc vn vw x y with ⟨hc, q1⟩ | ⟨hc, w1, w2, h1, hx, hw1, hy, hw2, hne, q1, q2, q3, q4, q5⟩
  · rcases r_fillAll (sc := sc) (h := (h.1, h.2 + 1)) (φ := φ) (ρ := ρ) r54 vn vw vch r5 x y with ⟨_, s1⟩ | ⟨z, _⟩
    · exact JB_mk (L_fillAll_x1 bo q1) (by omega) (ex.kps.rh gr) (ex.kps.out ho) gc.exc s1 rfl (ri.cg ⟨rfl, rfl, rfl, rfl, rfl, rfl, rfl, rfl⟩ ⟨rfl, rfl, rfl, rfl, rfl, rfl, rfl, rfl, rfl, rfl, rfl⟩) va (by rw [ex.1]; omega) (fun z => by cases z)
    · omega
  · obtain ⟨h2, l1, l2, l3, l4⟩ := L_fillAll_k bo (q3.kps.out ho) q1
    have he1 := q3.1
    rcases r_fillAll (sc := sc) (h := h2) (φ := φ) (ρ := ρ) r54 vn vw vch r5 x y with ⟨z, _⟩ | ⟨_, w1', w2', l', g', hx', hw1', hy', hw2', _, s1, s2, s3, s4⟩
    · omega
    · have e1 := nI_inj (by omega) (by omega) (hx'.symm.trans hx)
      have e2 := nI_inj (by omega) (by omega) (hy'.symm.trans hy)
      subst e1
      subst e2
      have hps := ps_H (H := H) vch vn r54 (fun k hk => ⟨(vH k hk).1, rH k hk⟩)
      have hsv := hs_V (n := n) (X := xM n (ρ 53)) vch ⟨vn, vw⟩ vH
      exact JB_mk l1 (by omega) ((q3.kps.rh gr).s72 l4) l3 (q2.s72 l4) s1 rfl ⟨ri.1, ri.2.1, ri.2.2.1, ⟨s2, s3, rfl, hps⟩, ri.2.2.2.2⟩ ⟨vlen, ⟨vL, vA⟩, ⟨vsn, vsg⟩, ⟨q5, q4⟩, hsv, vK, vV⟩ (by rw [l4.1]; omega) (fun _ => l2)
theorem J_undo (g : INV h i) : JB sc (i + 1) (Call sc n_L_undo [aD 0, aD 71] h) (fun h1 => Call sc n_X10_undo [aD 51] h1) := by
  obtain ⟨he, ho, φ, ρ, len, c, L, sn, SX, n, X, ch, H, ini, K, V, gr, gc, ri, va⟩ := g; obtain ⟨⟨r7, r56⟩, ⟨r16, r60⟩, ⟨r2, r53⟩, ⟨r54, rX, r5, rH⟩, r61, ⟨r22, rK⟩, ⟨r30, rV⟩⟩ := id ri; obtain ⟨vlen, ⟨vL, vA⟩, ⟨vsn, vsg⟩, ⟨vn, vw⟩, ⟨vch, vH⟩, vK, vV⟩ := id va; subst rX; subst r53; subst r56; obtain ⟨km, ks, bo⟩ := gc.bo
  have ex := LK.exc SCl h
  rcases k_undo (sc := sc) gc vch with ⟨hc, q1⟩ | ⟨hc, h1, q1, q2, q3⟩
  · have s1 := r_undo (sc := sc) (h := (h.1, h.2 + 1)) (φ := φ) (ρ := ρ) vch r5
    rw [if_pos hc] at s1
    exact JB_mk (L_undo_x1 bo q1) (by omega) (ex.kps.rh gr) (ex.kps.out ho) gc.exc s1 rfl (ri.cg ⟨rfl, rfl, rfl, rfl, rfl, rfl, rfl, rfl⟩ ⟨rfl, rfl, rfl, rfl, rfl, rfl, rfl, rfl, rfl, rfl, rfl⟩) va (by rw [ex.1]; omega) (fun z => by cases z)
  · obtain ⟨h2, l1, l2, l3, l4⟩ := L_undo_k bo (q3.kps.out ho) q1
    have he1 := q3.1
    have s1 := r_undo (sc := sc) (h := h2) (φ := φ) (ρ := ρ) vch r5
    rw [if_neg (by omega)] at s1
    obtain ⟨t1, t2⟩ := rH (ch - 1) (by omega)
    obtain ⟨t3, t4⟩ := vH (ch - 1) (by omega)
    have hcp : ∀ j, j ≤ 300 → cpy (ρ 54) (ρ 53) (301 * (ch - 1)) 0 301 j = ρ 54 (301 * (ch - 1) + j) := fun j hj => by
      rw [cpy_eq, if_pos (by omega), show 301 * (ch - 1) + (j - 0) = 301 * (ch - 1) + j by omega]
    refine JB_mk l1 (by omega) ((q3.kps.rh gr).s72 l4) l3 (q2.s72 l4) s1 rfl ⟨ri.1, ri.2.1, ri.2.2.1, ⟨?_, ?_, rfl, fun k hk => rH k (by omega)⟩, ri.2.2.2.2⟩ ⟨vlen, ⟨vL, vA⟩, ⟨vsn, vsg⟩, ⟨t3, t4⟩, ⟨by omega, fun k hk => vH k (by omega)⟩, vK, vV⟩ (by rw [l4.1]; omega) (fun _ => l2)
    · exact (hcp 0 (by omega)).trans t1
    · exact (xM_cg t3 hcp).trans t2
theorem J_text (g : INV h i) (x : Int32) : JB sc (i + 1) (Call sc n_L_text [aD 0, aI x, aD 71] h) (fun h1 => Call sc n_X10_text [aD 51, aI x] h1) := by
  obtain ⟨he, ho, φ, ρ, len, c, L, sn, SX, n, X, ch, H, ini, K, V, gr, gc, ri, va⟩ := g; obtain ⟨⟨r7, r56⟩, ⟨r16, r60⟩, ⟨r2, r53⟩, ⟨r54, rX, r5, rH⟩, r61, ⟨r22, rK⟩, ⟨r30, rV⟩⟩ := id ri; obtain ⟨vlen, ⟨vL, vA⟩, ⟨vsn, vsg⟩, ⟨vn, vw⟩, ⟨vch, vH⟩, vK, vV⟩ := id va; subst rX; subst r53; subst r56; obtain ⟨km, ks, bo⟩ := gc.bo
  have q1 := k_text (sc := sc) gc vL vA x
  have ex := LK.exc SCl h
  have h3 : cdTx L x = 0 ∨ cdTx L x = 1 := by
    unfold cdTx
    split <;> omega
  rcases h3 with hcd | hcd
  · rw [if_pos hcd] at q1
    obtain ⟨h2, l1, l2, l3, l4⟩ := L_text_k bo ho q1
    obtain ⟨b, s1, s2⟩ := r_text (sc := sc) (h := h2) (φ := φ) (ρ := ρ) r16 vL r60 vA x
    rw [hcd] at s1
    exact JB_mk l1 (by omega) (gr.s72 l4) l3 (gc.s72 l4) s1 rfl (ri.cg ⟨rfl, rfl, rfl, rfl, rfl, rfl, rfl, rfl⟩ ⟨rfl, rfl, rfl, rfl, rfl, rfl, rfl, rfl, rfl, rfl, rfl⟩) va (by rw [l4.1]; omega) (fun _ => by rw [s2 hcd]; exact l2)
  · rw [if_neg (by omega)] at q1
    obtain ⟨b, s1, s2⟩ := r_text (sc := sc) (h := (h.1, h.2 + 1)) (φ := φ) (ρ := ρ) r16 vL r60 vA x
    rw [hcd] at s1
    exact JB_mk (L_text_x1 bo q1) (by omega) (ex.kps.rh gr) (ex.kps.out ho) gc.exc s1 rfl (ri.cg ⟨rfl, rfl, rfl, rfl, rfl, rfl, rfl, rfl⟩ ⟨rfl, rfl, rfl, rfl, rfl, rfl, rfl, rfl, rfl, rfl, rfl⟩) va (by rw [ex.1]; omega) (fun z => by cases z)
theorem J_setInitial (g : INV h i) (b : Bool) (x y : Int32) : JB sc (i + 1) (Call sc n_L_setInitial [aD 0, aI (zI b), aI x, aI y, aD 71] h) (fun h1 => Call sc n_X10_setInitial [aD 51, aI (zI b), aI x, aI y] h1) := by
  obtain ⟨he, ho, φ, ρ, len, c, L, sn, SX, n, X, ch, H, ini, K, V, gr, gc, ri, va⟩ := g; obtain ⟨⟨r7, r56⟩, ⟨r16, r60⟩, ⟨r2, r53⟩, ⟨r54, rX, r5, rH⟩, r61, ⟨r22, rK⟩, ⟨r30, rV⟩⟩ := id ri; obtain ⟨vlen, ⟨vL, vA⟩, ⟨vsn, vsg⟩, ⟨vn, vw⟩, ⟨vch, vH⟩, vK, vV⟩ := id va; subst rX; subst r53; subst r56; obtain ⟨km, ks, bo⟩ := gc.bo
  have ex := LK.exc SCl h
  rcases k_setInitial (sc := sc) gc b x y with ⟨hp, q1⟩ | ⟨p, h1, hp, hlt, q1, q2, q3⟩
  · obtain ⟨v, s1, _⟩ := r_setInitial (sc := sc) (h := (h.1, h.2 + 1)) (φ := φ) (ρ := ρ) b x y
    simp only [hp] at s1
    exact JB_mk (L_setInitial_x1 bo q1) (by omega) (ex.kps.rh gr) (ex.kps.out ho) gc.exc s1 rfl (ri.cg ⟨rfl, rfl, rfl, rfl, rfl, rfl, rfl, rfl⟩ ⟨rfl, rfl, rfl, rfl, rfl, rfl, rfl, rfl, rfl, rfl, rfl⟩) va (by rw [ex.1]; omega) (fun z => by cases z)
  · obtain ⟨h2, l1, l2, l3, l4⟩ := L_setInitial_k bo (q3.kps.out ho) q1
    have he1 := q3.1
    obtain ⟨v, s1, s2⟩ := r_setInitial (sc := sc) (h := h2) (φ := φ) (ρ := ρ) b x y
    have hv := s2 p hp
    simp only [hp] at s1
    refine JB_mk l1 (by omega) ((q3.kps.rh gr).s72 l4) l3 (q2.s72 l4) s1 rfl ⟨ri.1, ri.2.1, ri.2.2.1, ri.2.2.2.1, fun j hj => ?_, ri.2.2.2.2.2⟩ va (by rw [l4.1]; omega) (fun _ => by rw [hv, r61 p hlt]; exact l2)
    show upd (ρ 60) p y j = upd ini p y j
    rw [upd_eq, upd_eq, r61 j hj]
theorem J_finalValue (g : INV h i) (b : Bool) (x : Int32) : JB sc (i + 1) (Call sc n_L_finalValue [aD 0, aI (zI b), aI x, aD 71] h) (fun h1 => Call sc n_X10_finalValue [aD 51, aI (zI b), aI x] h1) := by
  obtain ⟨he, ho, φ, ρ, len, c, L, sn, SX, n, X, ch, H, ini, K, V, gr, gc, ri, va⟩ := g; obtain ⟨⟨r7, r56⟩, ⟨r16, r60⟩, ⟨r2, r53⟩, ⟨r54, rX, r5, rH⟩, r61, ⟨r22, rK⟩, ⟨r30, rV⟩⟩ := id ri; obtain ⟨vlen, ⟨vL, vA⟩, ⟨vsn, vsg⟩, ⟨vn, vw⟩, ⟨vch, vH⟩, vK, vV⟩ := id va; subst rX; subst r53; subst r56; obtain ⟨km, ks, bo⟩ := gc.bo
  have ex := LK.exc SCl h
  rcases k_finalValue (sc := sc) gc b x with ⟨hK, q1⟩ | ⟨k, hK, ⟨hp, q1⟩ | ⟨p, hp, hlt, q1⟩⟩
  · subst hK
    obtain ⟨v, s1, _⟩ := r_finalValue (sc := sc) (h := (h.1, h.2 + 1)) (φ := φ) (ρ := ρ) false r22 b x
    exact JB_mk (L_finalValue_x1 bo q1) (by omega) (ex.kps.rh gr) (ex.kps.out ho) gc.exc s1 rfl (ri.cg ⟨rfl, rfl, rfl, rfl, rfl, rfl, rfl, rfl⟩ ⟨rfl, rfl, rfl, rfl, rfl, rfl, rfl, rfl, rfl, rfl, rfl⟩) va (by rw [ex.1]; omega) (fun z => by cases z)
  · subst hK
    obtain ⟨v, s1, _⟩ := r_finalValue (sc := sc) (h := (h.1, h.2 + 1)) (φ := φ) (ρ := ρ) true r22 b x
    rw [hp] at s1
    exact JB_mk (L_finalValue_x2 bo q1) (by omega) (ex.kps.rh gr) (ex.kps.out ho) gc.exc s1 rfl (ri.cg ⟨rfl, rfl, rfl, rfl, rfl, rfl, rfl, rfl⟩ ⟨rfl, rfl, rfl, rfl, rfl, rfl, rfl, rfl, rfl, rfl, rfl⟩) va (by rw [ex.1]; omega) (fun z => by cases z)
  · subst hK
    obtain ⟨h2, l1, l2, l3, l4⟩ := L_finalValue_k bo ho q1
    obtain ⟨v, s1, s2⟩ := r_finalValue (sc := sc) (h := h2) (φ := φ) (ρ := ρ) true r22 b x
    have hv := s2 p hp rfl
    rw [hp] at s1
    exact JB_mk l1 (by omega) (gr.s72 l4) l3 (gc.s72 l4) s1 rfl (ri.cg ⟨rfl, rfl, rfl, rfl, rfl, rfl, rfl, rfl⟩ ⟨rfl, rfl, rfl, rfl, rfl, rfl, rfl, rfl, rfl, rfl, rfl⟩) va (by rw [l4.1]; omega) (fun _ => by rw [hv, (rK k rfl).2.1 p hlt]; exact l2)
theorem J_outputs (g : INV h i) : JB sc (i + 1) (Call sc n_L_outputs [aD 0, aD 71] h) (fun h1 => Call sc n_X10_outputs [aD 51] h1) := by
  obtain ⟨he, ho, φ, ρ, len, c, L, sn, SX, n, X, ch, H, ini, K, V, gr, gc, ri, va⟩ := g; obtain ⟨⟨r7, r56⟩, ⟨r16, r60⟩, ⟨r2, r53⟩, ⟨r54, rX, r5, rH⟩, r61, ⟨r22, rK⟩, ⟨r30, rV⟩⟩ := id ri; obtain ⟨vlen, ⟨vL, vA⟩, ⟨vsn, vsg⟩, ⟨vn, vw⟩, ⟨vch, vH⟩, vK, vV⟩ := id va; subst rX; subst r53; subst r56; obtain ⟨km, ks, bo⟩ := gc.bo
  have ex := LK.exc SCl h
  rcases k_outputs (sc := sc) gc with ⟨hK, q1⟩ | ⟨k, hK, q1⟩
  · subst hK
    have s1 := r_outputs (sc := sc) (h := (h.1, h.2 + 1)) (φ := φ) (ρ := ρ) false r22
    exact JB_mk (L_outputs_x1 bo q1) (by omega) (ex.kps.rh gr) (ex.kps.out ho) gc.exc s1 rfl (ri.cg ⟨rfl, rfl, rfl, rfl, rfl, rfl, rfl, rfl⟩ ⟨rfl, rfl, rfl, rfl, rfl, rfl, rfl, rfl, rfl, rfl, rfl⟩) va (by rw [ex.1]; omega) (fun z => by cases z)
  · subst hK
    obtain ⟨h2, l1, l2, l3, l4⟩ := L_outputs_k bo ho q1
    have s1 := r_outputs (sc := sc) (h := h2) (φ := φ) (ρ := ρ) true r22
    rw [if_pos rfl, if_pos rfl] at s1
    exact JB_mk l1 (by omega) (gr.s72 l4) l3 (gc.s72 l4) s1 rfl (ri.cg ⟨rfl, rfl, rfl, rfl, rfl, rfl, rfl, rfl⟩ ⟨rfl, rfl, rfl, rfl, rfl, rfl, rfl, rfl, rfl, rfl, rfl⟩) va (by rw [l4.1]; omega) (fun _ => by rw [(rK k rfl).1]; exact l2)
theorem J_output (g : INV h i) (x : Int32) : JB sc (i + 1) (Call sc n_L_output [aD 0, aI x, aD 71] h) (fun h1 => Call sc n_X10_output [aD 51, aI x] h1) := by
  obtain ⟨he, ho, φ, ρ, len, c, L, sn, SX, n, X, ch, H, ini, K, V, gr, gc, ri, va⟩ := g; obtain ⟨⟨r7, r56⟩, ⟨r16, r60⟩, ⟨r2, r53⟩, ⟨r54, rX, r5, rH⟩, r61, ⟨r22, rK⟩, ⟨r30, rV⟩⟩ := id ri; obtain ⟨vlen, ⟨vL, vA⟩, ⟨vsn, vsg⟩, ⟨vn, vw⟩, ⟨vch, vH⟩, vK, vV⟩ := id va; subst rX; subst r53; subst r56; obtain ⟨km, ks, bo⟩ := gc.bo
  have ex := LK.exc SCl h
  rcases k_output (sc := sc) gc vK x with ⟨hK, q1⟩ | ⟨k, hK, q1⟩
  · subst hK
    obtain ⟨v, s1, _⟩ := r_output (sc := sc) (h := (h.1, h.2 + 1)) (φ := φ) (ρ := ρ) (m := 0) false r22 (fun z => by cases z) x
    exact JB_mk (L_output_x1 bo q1) (by omega) (ex.kps.rh gr) (ex.kps.out ho) gc.exc s1 rfl (ri.cg ⟨rfl, rfl, rfl, rfl, rfl, rfl, rfl, rfl⟩ ⟨rfl, rfl, rfl, rfl, rfl, rfl, rfl, rfl, rfl, rfl, rfl⟩) va (by rw [ex.1]; omega) (fun z => by cases z)
  · subst hK
    have hk2 := vK k rfl
    by_cases h1 : IR k.2.2 x
    · rw [if_pos h1] at q1
      obtain ⟨h2, l1, l2, l3, l4⟩ := L_output_k bo ho q1
      obtain ⟨v, s1, s2⟩ := r_output (sc := sc) (h := h2) (φ := φ) (ρ := ρ) (m := k.2.2) true r22 (fun _ => ⟨(rK k rfl).1, hk2⟩) x
      have hcd : cdOu true k.2.2 x = 0 := by
        unfold cdOu
        rw [if_pos rfl, if_pos h1]
      have hv := s2 hcd
      obtain ⟨j, hj, rfl⟩ := has_ex (by omega) h1
      rw [nI_clamp (by omega), (rK k rfl).2.2 j hj] at hv
      rw [nI_clamp (by omega)] at l2
      rw [hcd] at s1
      exact JB_mk l1 (by omega) (gr.s72 l4) l3 (gc.s72 l4) s1 rfl (ri.cg ⟨rfl, rfl, rfl, rfl, rfl, rfl, rfl, rfl⟩ ⟨rfl, rfl, rfl, rfl, rfl, rfl, rfl, rfl, rfl, rfl, rfl⟩) va (by rw [l4.1]; omega) (fun _ => by rw [hv]; exact l2)
    · rw [if_neg h1] at q1
      obtain ⟨v, s1, _⟩ := r_output (sc := sc) (h := (h.1, h.2 + 1)) (φ := φ) (ρ := ρ) (m := k.2.2) true r22 (fun _ => ⟨(rK k rfl).1, hk2⟩) x
      have hcd : cdOu true k.2.2 x = 2 := by
        unfold cdOu
        rw [if_pos rfl, if_neg h1]
      rw [hcd] at s1
      exact JB_mk (L_output_x2 bo q1) (by omega) (ex.kps.rh gr) (ex.kps.out ho) gc.exc s1 rfl (ri.cg ⟨rfl, rfl, rfl, rfl, rfl, rfl, rfl, rfl⟩ ⟨rfl, rfl, rfl, rfl, rfl, rfl, rfl, rfl, rfl, rfl, rfl⟩) va (by rw [ex.1]; omega) (fun z => by cases z)
theorem J_differences (g : INV h i) (s x : Int32) : JB sc (i + 1) (Call sc n_L_differences [aD 0, aI s, aI x, aD 71] h) (fun h1 => Call sc n_X10_differences [aD 51, aI s, aI x] h1) := by
  obtain ⟨he, ho, φ, ρ, len, c, L, sn, SX, n, X, ch, H, ini, K, V, gr, gc, ri, va⟩ := g; obtain ⟨⟨r7, r56⟩, ⟨r16, r60⟩, ⟨r2, r53⟩, ⟨r54, rX, r5, rH⟩, r61, ⟨r22, rK⟩, ⟨r30, rV⟩⟩ := id ri; obtain ⟨vlen, ⟨vL, vA⟩, ⟨vsn, vsg⟩, ⟨vn, vw⟩, ⟨vch, vH⟩, vK, vV⟩ := id va; subst rX; subst r53; subst r56; obtain ⟨km, ks, bo⟩ := gc.bo
  obtain ⟨h1, q1, q3, e, q4, q5⟩ := k_differences (sc := sc) gc vsn vsg vn vw s x
  have he1 := q5.1
  have h3 : cd50 x = 0 ∨ cd50 x = 1 := by
    unfold cd50
    split <;> omega
  rcases h3 with hcd | hcd
  · rw [if_pos hcd] at q1
    obtain ⟨h2, l1, l2, l3, l4⟩ := L_differences_k bo (q5.kps.out ho) q1
    obtain ⟨b, φ', ρ', s1, s2, s3, s4⟩ := r_differences (sc := sc) (h := h2) (φ := φ) (ρ := ρ) r54 vn vw r2 vsn vsg.1 s x
    have h0 := s2.1
    rw [hcd] at h0
    exact JB_mk l1 (by omega) ((q5.kps.rh gr).s72 l4) l3 (q3.s72 l4) s1 h0 (ri.kf s2 s3) va (by rw [l4.1]; omega) (fun _ => by rw [s4 hcd]; exact l2)
  · rw [if_neg (by omega)] at q1
    obtain ⟨b, φ', ρ', s1, s2, s3, s4⟩ := r_differences (sc := sc) (h := h1) (φ := φ) (ρ := ρ) r54 vn vw r2 vsn vsg.1 s x
    have h0 := s2.1
    rw [hcd] at h0
    exact JB_mk (L_differences_x1 bo q1) (by omega) (q5.kps.rh gr) (q5.kps.out ho) q3 s1 h0 (ri.kf s2 s3) va (by omega) (fun z => by cases z)
theorem J_restore (g : INV h i) : JB sc (i + 1) (Call sc n_L_restore [aD 0, aD 71] h) (fun h1 => Call sc n_X10_restore [aD 51] h1) := by
  obtain ⟨he, ho, φ, ρ, len, c, L, sn, SX, n, X, ch, H, ini, K, V, gr, gc, ri, va⟩ := g; obtain ⟨⟨r7, r56⟩, ⟨r16, r60⟩, ⟨r2, r53⟩, ⟨r54, rX, r5, rH⟩, r61, ⟨r22, rK⟩, ⟨r30, rV⟩⟩ := id ri; obtain ⟨vlen, ⟨vL, vA⟩, ⟨vsn, vsg⟩, ⟨vn, vw⟩, ⟨vch, vH⟩, vK, vV⟩ := id va; subst rX; subst r53; subst r56; obtain ⟨km, ks, bo⟩ := gc.bo
  have ex := LK.exc SCl h
  rcases k_restore (sc := sc) gc (fun v hv => ⟨(vV v hv).1.1, (vV v hv).2.1⟩) with ⟨hV, q1⟩ | ⟨v, h1, hV, q1, q2, q3⟩
  · subst hV
    have s1 := r_restore (sc := sc) (h := (h.1, h.2 + 1)) (φ := φ) (ρ := ρ) false r30
    rw [if_neg (by decide)] at s1
    exact JB_mk (L_restore_x1 bo q1) (by omega) (ex.kps.rh gr) (ex.kps.out ho) gc.exc s1 rfl (ri.cg ⟨rfl, rfl, rfl, rfl, rfl, rfl, rfl, rfl⟩ ⟨rfl, rfl, rfl, rfl, rfl, rfl, rfl, rfl, rfl, rfl, rfl⟩) va (by rw [ex.1]; omega) (fun z => by cases z)
  · subst hV
    obtain ⟨h2, l1, l2, l3, l4⟩ := L_restore_k bo (q3.kps.out ho) q1
    have he1 := q3.1
    have s1 := r_restore (sc := sc) (h := h2) (φ := φ) (ρ := ρ) true r30
    rw [if_pos rfl] at s1
    obtain ⟨t1, t2, t3, t4, t5⟩ := rV v rfl
    obtain ⟨⟨u1, u2⟩, u3, u4⟩ := vV v rfl
    refine JB_mk l1 (by omega) ((q3.kps.rh gr).s72 l4) l3 (q2.s72 l4) s1 rfl ⟨ri.1, ri.2.1, ⟨t1, ?_⟩, ⟨?_, ?_, rfl, fun k hk => absurd hk (Nat.not_lt_zero k)⟩, fun j hj => ?_, ri.2.2.2.2.2⟩ ⟨vlen, ⟨vL, vA⟩, ⟨u1, u2⟩, ⟨u3, u4⟩, ⟨by omega, fun k hk => absurd hk (Nat.not_lt_zero k)⟩, vK, vV⟩ (by rw [l4.1]; omega) (fun _ => by rw [t1]; exact l2)
    · exact (xS_cg u1 (fun j hj => cpy_z (ρ 68) (ρ 52) 120 j hj)).trans t2
    · exact (cpy_z (ρ 69) (ρ 53) 301 0 (by omega)).trans t3
    · exact (xM_cg u3 (fun j hj => cpy_z (ρ 69) (ρ 53) 301 j (by omega))).trans t4
    · exact (cpy_z (ρ 70) (ρ 60) 24 j hj).trans (t5 j hj)
end
