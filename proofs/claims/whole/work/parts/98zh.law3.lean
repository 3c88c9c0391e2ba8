/-! PURE 81: both sides after the calls with a long as the answer -/
section
variable {len sn n ch len' sn' : Nat} {c ini φ φ' : Nat → Int32} {X SX SX' ρ ρ' : Nat → Nat → Int32} {H : HTy} {L : List Int32} {K : KTy} {V : VTy}
theorem RI.src (hr : RI φ ρ len c L sn SX n X ch H ini K V) (h7 : φ' 7 = nI len') (h2 : φ' 2 = nI sn') (hx : xS sn' (ρ' 52) = SX') (hφ : φ' 5 = φ 5 ∧ φ' 16 = φ 16 ∧ φ' 22 = φ 22 ∧ φ' 25 = φ 25 ∧ φ' 30 = φ 30 ∧ φ' 32 = φ 32) (hρ : ∀ q, ¬ q = 52 → ¬ q = 56 → ρ' q = ρ q) : RI φ' ρ' len' c L sn' SX' n X ch H ini K V := by
  obtain ⟨a2, a4, a5, a6, a7, a8⟩ := hφ
  obtain ⟨⟨_, r56⟩, b2, _, b4, b5, b6, b7⟩ := hr
  unfold RI
  rw [a2, a4, a5, a6, a7, a8, hρ 53 (by omega) (by omega), hρ 54 (by omega) (by omega), hρ 55 (by omega) (by omega), hρ 59 (by omega) (by omega), hρ 60 (by omega) (by omega), hρ 63 (by omega) (by omega), hρ 64 (by omega) (by omega), hρ 68 (by omega) (by omega), hρ 69 (by omega) (by omega), hρ 70 (by omega) (by omega)]
  exact ⟨⟨h7, r56⟩, b2, ⟨h2, hx⟩, b4, b5, b6, b7⟩
theorem hs_V (hch : ch ≤ 8) (hn : n ≤ 60 ∧ WF n X) (hH : ∀ k, k < ch → (H k).1 ≤ 60 ∧ WF (H k).1 (H k).2) : psN ch ≤ 8 ∧ ∀ k, k < psN ch → (hsH ch H n X k).1 ≤ 60 ∧ WF (hsH ch H n X k).1 (hsH ch H n X k).2 := by
  refine ⟨by unfold psN; split <;> omega, fun k hk => ?_⟩
  unfold psN at hk
  unfold hsH
  by_cases h8 : ch = 8
  · rw [if_pos h8] at hk ⊢
    by_cases h7 : k < 7
    · rw [if_pos h7]
      exact hH (k + 1) (by omega)
    · rw [if_neg h7]
      exact hn
  · rw [if_neg h8] at hk ⊢
    by_cases h7 : k = ch
    · rw [if_pos h7]
      exact hn
    · rw [if_neg h7]
      exact hH k (by omega)
theorem cdPa_le (r : Bool × Nat × Nat × (Nat → Nat → Int32)) (sn : Nat) : cdPa r sn = 0 ∨ cdPa r sn = 1 ∨ cdPa r sn = 2 := by
  unfold cdPa
  repeat (split <;> try omega)
end
section
variable {sc : SC} {h : AH} {i : Nat}
theorem J_parse (g : INV h i) : JB sc (i + 1) (Call sc n_L_parse [aD 0, aD 71] h) (fun h1 => Call sc n_X10_parse [aD 51] h1) := by
  obtain ⟨he, ho, φ, ρ, len, c, L, sn, SX, n, X, ch, H, ini, K, V, gr, gc, ri, va⟩ := g; obtain ⟨⟨r7, r56⟩, ⟨r16, r60⟩, ⟨r2, r53⟩, ⟨r54, rX, r5, rH⟩, r61, ⟨r22, rK⟩, ⟨r30, rV⟩⟩ := id ri; obtain ⟨vlen, ⟨vL, vA⟩, ⟨vsn, vsg⟩, ⟨vn, vw⟩, ⟨vch, vH⟩, vK, vV⟩ := id va; subst rX; subst r53; subst r56; obtain ⟨km, ks, bo⟩ := gc.bo
  obtain ⟨h1, E, q1, q2, q3, q4, q5, e, q6, q7⟩ := k_parse (sc := sc) gc vlen vsn
  have hok := rt_ok (c := ρ 55) vlen
  have he1 := q7.1
  rcases cdPa_le (rtX (ρ 55) len) sn with hcd | hcd | hcd
  · rw [if_pos hcd] at q1
    obtain ⟨h2, l1, l2, l3, l4⟩ := L_parse_k bo (q7.kps.out ho) q1
    obtain ⟨b, φ', ρ', s1, s2, s3, s4, s5, s6, s7, s8⟩ := r_parse (sc := sc) (h := h2) (φ := φ) (ρ := ρ) r7 vlen r2 vsn
    rw [hcd] at s2
    by_cases hT : (rtX (ρ 55) len).1 = true
    · obtain ⟨t1, t2⟩ := s7 ⟨hT, hcd⟩
      obtain ⟨u1, u2⟩ := hok.2 hT
      have hb : irB (rtX (ρ 55) len).2.2.2 (rtX (ρ 55) len).2.2.1 = true ∧ sn + (rtX (ρ 55) len).2.2.1 ≤ 30 := by
        unfold cdPa at hcd
        rw [if_pos hT] at hcd
        split at hcd
        · rename_i hb
          split at hcd
          · rename_i hb2
            exact ⟨hb, hb2⟩
          · cases hcd
        · cases hcd
      refine JB_mk l1 (by omega) ((q7.kps.rh gr).s72 l4) l3 ((q4 ⟨hT, hcd⟩).s72 l4) s1 s2 (ri.src s3 t1 t2 s4 s5) ⟨by omega, ⟨vL, vA⟩, ⟨hb.2, SG_apd hb.2 vsg (fun j hj => GS_of u1 (u2 j hj) (irB_at hb.1 j hj))⟩, ⟨vn, vw⟩, ⟨vch, vH⟩, vK, vV⟩ (by rw [l4.1]; omega) (fun _ => by rw [s6 hcd]; exact l2)
    · have hT2 : ¬ ((rtX (ρ 55) len).1 = true ∧ cdPa (rtX (ρ 55) len) sn = 0) := fun z => hT z.1
      obtain ⟨t1, t2⟩ := s8 hT2
      refine JB_mk l1 (by omega) ((q7.kps.rh gr).s72 l4) l3 ((q5 hT2).s72 l4) s1 s2 (ri.src s3 t1 (by rw [t2]) s4 s5) ⟨by omega, va.2⟩ (by rw [l4.1]; omega) (fun _ => by rw [s6 hcd]; exact l2)
  · have hne : ¬ cdPa (rtX (ρ 55) len) sn = 0 := by omega
    have hT2 : ¬ ((rtX (ρ 55) len).1 = true ∧ cdPa (rtX (ρ 55) len) sn = 0) := fun z => hne z.2
    rw [if_neg hne, q2 hcd] at q1
    obtain ⟨b, φ', ρ', s1, s2, s3, s4, s5, s6, s7, s8⟩ := r_parse (sc := sc) (h := h1) (φ := φ) (ρ := ρ) r7 vlen r2 vsn
    rw [hcd] at s2
    obtain ⟨t1, t2⟩ := s8 hT2
    exact JB_mk (L_parse_x1 bo q1) (by omega) (q7.kps.rh gr) (q7.kps.out ho) (q5 hT2) s1 s2 (ri.src s3 t1 (by rw [t2]) s4 s5) ⟨by omega, va.2⟩ (by omega) (fun z => by cases z)
  · have hne : ¬ cdPa (rtX (ρ 55) len) sn = 0 := by omega
    have hT2 : ¬ ((rtX (ρ 55) len).1 = true ∧ cdPa (rtX (ρ 55) len) sn = 0) := fun z => hne z.2
    rw [if_neg hne, q3 hcd] at q1
    obtain ⟨b, φ', ρ', s1, s2, s3, s4, s5, s6, s7, s8⟩ := r_parse (sc := sc) (h := h1) (φ := φ) (ρ := ρ) r7 vlen r2 vsn
    rw [hcd] at s2
    obtain ⟨t1, t2⟩ := s8 hT2
    exact JB_mk (L_parse_x2 bo q1) (by omega) (q7.kps.rh gr) (q7.kps.out ho) (q5 hT2) s1 s2 (ri.src s3 t1 (by rw [t2]) s4 s5) ⟨by omega, va.2⟩ (by omega) (fun z => by cases z)
theorem J_instruction (g : INV h i) (x y : Int32) : JB sc (i + 1) (Call sc n_L_instruction [aD 0, aI x, aI y, aD 71] h) (fun h1 => Call sc n_X10_instruction [aD 51, aI x, aI y] h1) := by
  obtain ⟨he, ho, φ, ρ, len, c, L, sn, SX, n, X, ch, H, ini, K, V, gr, gc, ri, va⟩ := g; obtain ⟨⟨r7, r56⟩, ⟨r16, r60⟩, ⟨r2, r53⟩, ⟨r54, rX, r5, rH⟩, r61, ⟨r22, rK⟩, ⟨r30, rV⟩⟩ := id ri; obtain ⟨vlen, ⟨vL, vA⟩, ⟨vsn, vsg⟩, ⟨vn, vw⟩, ⟨vch, vH⟩, vK, vV⟩ := id va; subst rX; subst r53; subst r56; obtain ⟨km, ks, bo⟩ := gc.bo
  obtain ⟨E, q1, q2, q3⟩ := k_instruction (sc := sc) gc vsn x y
  have ex := LK.exc SCl h
  have h3 : cdIn sn x y = 0 ∨ cdIn sn x y = 1 ∨ cdIn sn x y = 2 := by
    unfold cdIn
    repeat (split <;> try omega)
  rcases h3 with hcd | hcd | hcd
  · rw [if_pos hcd] at q1
    obtain ⟨h2, l1, l2, l3, l4⟩ := L_instruction_k bo ho q1
    obtain ⟨b, s1, s2⟩ := r_instruction (sc := sc) (h := h2) (φ := φ) (ρ := ρ) r2 vsn x y
    rw [hcd] at s1
    exact JB_mk l1 (by omega) (gr.s72 l4) l3 (gc.s72 l4) s1 rfl (ri.cg ⟨rfl, rfl, rfl, rfl, rfl, rfl, rfl, rfl⟩ ⟨rfl, rfl, rfl, rfl, rfl, rfl, rfl, rfl, rfl, rfl, rfl⟩) va (by rw [l4.1]; omega) (fun _ => by rw [s2 hcd]; exact l2)
  · rw [if_neg (by omega), q2 hcd] at q1
    obtain ⟨b, s1, s2⟩ := r_instruction (sc := sc) (h := (h.1, h.2 + 1)) (φ := φ) (ρ := ρ) r2 vsn x y
    rw [hcd] at s1
    exact JB_mk (L_instruction_x1 bo q1) (by omega) (ex.kps.rh gr) (ex.kps.out ho) gc.exc s1 rfl (ri.cg ⟨rfl, rfl, rfl, rfl, rfl, rfl, rfl, rfl⟩ ⟨rfl, rfl, rfl, rfl, rfl, rfl, rfl, rfl, rfl, rfl, rfl⟩) va (by rw [ex.1]; omega) (fun z => by cases z)
  · rw [if_neg (by omega), q3 hcd] at q1
    obtain ⟨b, s1, s2⟩ := r_instruction (sc := sc) (h := (h.1, h.2 + 1)) (φ := φ) (ρ := ρ) r2 vsn x y
    rw [hcd] at s1
    exact JB_mk (L_instruction_x2 bo q1) (by omega) (ex.kps.rh gr) (ex.kps.out ho) gc.exc s1 rfl (ri.cg ⟨rfl, rfl, rfl, rfl, rfl, rfl, rfl, rfl⟩ ⟨rfl, rfl, rfl, rfl, rfl, rfl, rfl, rfl, rfl, rfl, rfl⟩) va (by rw [ex.1]; omega) (fun z => by cases z)
theorem J_entry (g : INV h i) (x y : Int32) : JB sc (i + 1) (Call sc n_L_entry [aD 0, aI x, aI y, aD 71] h) (fun h1 => Call sc n_X10_entry [aD 51, aI x, aI y] h1) := by
  obtain ⟨he, ho, φ, ρ, len, c, L, sn, SX, n, X, ch, H, ini, K, V, gr, gc, ri, va⟩ := g; obtain ⟨⟨r7, r56⟩, ⟨r16, r60⟩, ⟨r2, r53⟩, ⟨r54, rX, r5, rH⟩, r61, ⟨r22, rK⟩, ⟨r30, rV⟩⟩ := id ri; obtain ⟨vlen, ⟨vL, vA⟩, ⟨vsn, vsg⟩, ⟨vn, vw⟩, ⟨vch, vH⟩, vK, vV⟩ := id va; subst rX; subst r53; subst r56; obtain ⟨km, ks, bo⟩ := gc.bo
  obtain ⟨E, q1, q2, q3⟩ := k_entry (sc := sc) gc vn vw x y
  have ex := LK.exc SCl h
  have h3 : cdEn n x y = 0 ∨ cdEn n x y = 1 ∨ cdEn n x y = 2 := by
    unfold cdEn
    repeat (split <;> try omega)
  rcases h3 with hcd | hcd | hcd
  · rw [if_pos hcd] at q1
    obtain ⟨h2, l1, l2, l3, l4⟩ := L_entry_k bo ho q1
    obtain ⟨b, s1, s2⟩ := r_entry (sc := sc) (h := h2) (φ := φ) (ρ := ρ) r54 vn vw x y
    rw [hcd] at s1
    exact JB_mk l1 (by omega) (gr.s72 l4) l3 (gc.s72 l4) s1 rfl (ri.cg ⟨rfl, rfl, rfl, rfl, rfl, rfl, rfl, rfl⟩ ⟨rfl, rfl, rfl, rfl, rfl, rfl, rfl, rfl, rfl, rfl, rfl⟩) va (by rw [l4.1]; omega) (fun _ => by rw [s2 hcd]; exact l2)
  · rw [if_neg (by omega), q2 hcd] at q1
    obtain ⟨b, s1, s2⟩ := r_entry (sc := sc) (h := (h.1, h.2 + 1)) (φ := φ) (ρ := ρ) r54 vn vw x y
    rw [hcd] at s1
    exact JB_mk (L_entry_x1 bo q1) (by omega) (ex.kps.rh gr) (ex.kps.out ho) gc.exc s1 rfl (ri.cg ⟨rfl, rfl, rfl, rfl, rfl, rfl, rfl, rfl⟩ ⟨rfl, rfl, rfl, rfl, rfl, rfl, rfl, rfl, rfl, rfl, rfl⟩) va (by rw [ex.1]; omega) (fun z => by cases z)
  · rw [if_neg (by omega), q3 hcd] at q1
    obtain ⟨b, s1, s2⟩ := r_entry (sc := sc) (h := (h.1, h.2 + 1)) (φ := φ) (ρ := ρ) r54 vn vw x y
    rw [hcd] at s1
    exact JB_mk (L_entry_x2 bo q1) (by omega) (ex.kps.rh gr) (ex.kps.out ho) gc.exc s1 rfl (ri.cg ⟨rfl, rfl, rfl, rfl, rfl, rfl, rfl, rfl⟩ ⟨rfl, rfl, rfl, rfl, rfl, rfl, rfl, rfl, rfl, rfl, rfl⟩) va (by rw [ex.1]; omega) (fun z => by cases z)
theorem J_count (g : INV h i) (x : Int32) : JB sc (i + 1) (Call sc n_L_count [aD 0, aI x, aD 71] h) (fun h1 => Call sc n_X10_count [aD 51, aI x] h1) := by
  obtain ⟨he, ho, φ, ρ, len, c, L, sn, SX, n, X, ch, H, ini, K, V, gr, gc, ri, va⟩ := g; obtain ⟨⟨r7, r56⟩, ⟨r16, r60⟩, ⟨r2, r53⟩, ⟨r54, rX, r5, rH⟩, r61, ⟨r22, rK⟩, ⟨r30, rV⟩⟩ := id ri; obtain ⟨vlen, ⟨vL, vA⟩, ⟨vsn, vsg⟩, ⟨vn, vw⟩, ⟨vch, vH⟩, vK, vV⟩ := id va; subst rX; subst r53; subst r56; obtain ⟨km, ks, bo⟩ := gc.bo
  obtain ⟨E, h1, q1, q2, q3, e, q4, q5⟩ := k_count (sc := sc) gc vn vw x
  have he1 := q5.1
  have h3 : cdCt x = 0 ∨ cdCt x = 1 := by
    unfold cdCt
    split <;> omega
  rcases h3 with hcd | hcd
  · rw [if_pos hcd] at q1
    obtain ⟨h2, l1, l2, l3, l4⟩ := L_count_k bo (q5.kps.out ho) q1
    obtain ⟨b, s', s1, s2⟩ := r_count (sc := sc) (h := h2) (φ := φ) (ρ := ρ) r54 vn vw x
    rw [hcd] at s1
    exact JB_mk l1 (by omega) ((q5.kps.rh gr).s72 l4) l3 (q3.s72 l4) s1 rfl (ri.cg ⟨rfl, rfl, rfl, rfl, rfl, rfl, rfl, rfl⟩ ⟨rfl, rfl, rfl, rfl, rfl, rfl, rfl, rfl, rfl, rfl, rfl⟩) va (by rw [l4.1]; omega) (fun _ => by rw [s2 hcd]; exact l2)
  · rw [if_neg (by omega), q2 hcd] at q1
    obtain ⟨b, s', s1, s2⟩ := r_count (sc := sc) (h := h1) (φ := φ) (ρ := ρ) r54 vn vw x
    rw [hcd] at s1
    exact JB_mk (L_count_x1 bo q1) (by omega) (q5.kps.rh gr) (q5.kps.out ho) q3 s1 rfl (ri.cg ⟨rfl, rfl, rfl, rfl, rfl, rfl, rfl, rfl⟩ ⟨rfl, rfl, rfl, rfl, rfl, rfl, rfl, rfl, rfl, rfl, rfl⟩) va (by omega) (fun z => by cases z)
theorem J_live (g : INV h i) (x : Int32) : JB sc (i + 1) (Call sc n_L_live [aD 0, aI x, aD 71] h) (fun h1 => Call sc n_X10_live [aD 51, aI x] h1) := by
  obtain ⟨he, ho, φ, ρ, len, c, L, sn, SX, n, X, ch, H, ini, K, V, gr, gc, ri, va⟩ := g; obtain ⟨⟨r7, r56⟩, ⟨r16, r60⟩, ⟨r2, r53⟩, ⟨r54, rX, r5, rH⟩, r61, ⟨r22, rK⟩, ⟨r30, rV⟩⟩ := id ri; obtain ⟨vlen, ⟨vL, vA⟩, ⟨vsn, vsg⟩, ⟨vn, vw⟩, ⟨vch, vH⟩, vK, vV⟩ := id va; subst rX; subst r53; subst r56; obtain ⟨km, ks, bo⟩ := gc.bo
  obtain ⟨E, h1, q1, q2, q3, q6, e, q4, q5⟩ := k_live (sc := sc) gc vn vw x
  have he1 := q5.1
  have h3 : cdLi n (xM n (ρ 53)) x = 0 ∨ cdLi n (xM n (ρ 53)) x = 1 ∨ cdLi n (xM n (ρ 53)) x = 2 := by
    unfold cdLi
    repeat (split <;> try omega)
  rcases h3 with hcd | hcd | hcd
  · rw [if_pos hcd] at q1
    obtain ⟨h2, l1, l2, l3, l4⟩ := L_live_k bo (q5.kps.out ho) q1
    obtain ⟨b, s', s1, s2⟩ := r_live (sc := sc) (h := h2) (φ := φ) (ρ := ρ) r54 vn vw x
    rw [hcd] at s1
    exact JB_mk l1 (by omega) ((q5.kps.rh gr).s72 l4) l3 (q6.s72 l4) s1 rfl (ri.cg ⟨rfl, rfl, rfl, rfl, rfl, rfl, rfl, rfl⟩ ⟨rfl, rfl, rfl, rfl, rfl, rfl, rfl, rfl, rfl, rfl, rfl⟩) va (by rw [l4.1]; omega) (fun _ => by rw [s2 hcd]; exact l2)
  · rw [if_neg (by omega), q2 hcd] at q1
    obtain ⟨b, s', s1, s2⟩ := r_live (sc := sc) (h := h1) (φ := φ) (ρ := ρ) r54 vn vw x
    rw [hcd] at s1
    exact JB_mk (L_live_x1 bo q1) (by omega) (q5.kps.rh gr) (q5.kps.out ho) q6 s1 rfl (ri.cg ⟨rfl, rfl, rfl, rfl, rfl, rfl, rfl, rfl⟩ ⟨rfl, rfl, rfl, rfl, rfl, rfl, rfl, rfl, rfl, rfl, rfl⟩) va (by omega) (fun z => by cases z)
  · rw [if_neg (by omega), q3 hcd] at q1
    obtain ⟨b, s', s1, s2⟩ := r_live (sc := sc) (h := h1) (φ := φ) (ρ := ρ) r54 vn vw x
    rw [hcd] at s1
    exact JB_mk (L_live_x2 bo q1) (by omega) (q5.kps.rh gr) (q5.kps.out ho) q6 s1 rfl (ri.cg ⟨rfl, rfl, rfl, rfl, rfl, rfl, rfl, rfl⟩ ⟨rfl, rfl, rfl, rfl, rfl, rfl, rfl, rfl, rfl, rfl, rfl⟩) va (by omega) (fun z => by cases z)
theorem prX_le (X : Nat → Nat → Int32) (n : Nat) (x y : Int32) : prX X n x y = 0 ∨ prX X n x y = 1 ∨ prX X n x y = 2 ∨ prX X n x y = 3 ∨ prX X n x y = 4 := by
  unfold prX
  repeat (split <;> try omega)
theorem J_candidate (g : INV h i) (x y : Int32) : JB sc (i + 1) (Call sc n_L_candidate [aD 0, aI x, aI y, aD 71] h) (fun h1 => Call sc n_X10_candidate [aD 51, aI x, aI y] h1) := by
  obtain ⟨he, ho, φ, ρ, len, c, L, sn, SX, n, X, ch, H, ini, K, V, gr, gc, ri, va⟩ := g; obtain ⟨⟨r7, r56⟩, ⟨r16, r60⟩, ⟨r2, r53⟩, ⟨r54, rX, r5, rH⟩, r61, ⟨r22, rK⟩, ⟨r30, rV⟩⟩ := id ri; obtain ⟨vlen, ⟨vL, vA⟩, ⟨vsn, vsg⟩, ⟨vn, vw⟩, ⟨vch, vH⟩, vK, vV⟩ := id va; subst rX; subst r53; subst r56; obtain ⟨km, ks, bo⟩ := gc.bo
  obtain ⟨E, h1, q1, ⟨q2, q3, p3, p4⟩, q6, e, q4, q5, _⟩ := k_candidate (sc := sc) gc vn vw x y
  have he1 := q5.1
  rcases prX_le (xM n (ρ 53)) n x y with hcd | hcd | hcd | hcd | hcd
  · rw [if_pos hcd] at q1
    obtain ⟨h2, l1, l2, l3, l4⟩ := L_candidate_k bo (q5.kps.out ho) q1
    obtain ⟨b, s', s1, s2⟩ := r_candidate (sc := sc) (h := h2) (φ := φ) (ρ := ρ) r54 vn vw x y
    rw [hcd] at s1
    exact JB_mk l1 (by omega) ((q5.kps.rh gr).s72 l4) l3 (q6.s72 l4) s1 rfl (ri.cg ⟨rfl, rfl, rfl, rfl, rfl, rfl, rfl, rfl⟩ ⟨rfl, rfl, rfl, rfl, rfl, rfl, rfl, rfl, rfl, rfl, rfl⟩) va (by rw [l4.1]; omega) (fun _ => by rw [s2 hcd]; exact l2)
  · rw [if_neg (by omega), q2 hcd] at q1
    obtain ⟨b, s', s1, s2⟩ := r_candidate (sc := sc) (h := h1) (φ := φ) (ρ := ρ) r54 vn vw x y
    rw [hcd] at s1
    exact JB_mk (L_candidate_x1 bo q1) (by omega) (q5.kps.rh gr) (q5.kps.out ho) q6 s1 rfl (ri.cg ⟨rfl, rfl, rfl, rfl, rfl, rfl, rfl, rfl⟩ ⟨rfl, rfl, rfl, rfl, rfl, rfl, rfl, rfl, rfl, rfl, rfl⟩) va (by omega) (fun z => by cases z)
  · rw [if_neg (by omega), q3 hcd] at q1
    obtain ⟨b, s', s1, s2⟩ := r_candidate (sc := sc) (h := h1) (φ := φ) (ρ := ρ) r54 vn vw x y
    rw [hcd] at s1
    exact JB_mk (L_candidate_x2 bo q1) (by omega) (q5.kps.rh gr) (q5.kps.out ho) q6 s1 rfl (ri.cg ⟨rfl, rfl, rfl, rfl, rfl, rfl, rfl, rfl⟩ ⟨rfl, rfl, rfl, rfl, rfl, rfl, rfl, rfl, rfl, rfl, rfl⟩) va (by omega) (fun z => by cases z)
  · rw [if_neg (by omega), p3 hcd] at q1
    obtain ⟨b, s', s1, s2⟩ := r_candidate (sc := sc) (h := h1) (φ := φ) (ρ := ρ) r54 vn vw x y
    rw [hcd] at s1
    exact JB_mk (L_candidate_x3 bo q1) (by omega) (q5.kps.rh gr) (q5.kps.out ho) q6 s1 rfl (ri.cg ⟨rfl, rfl, rfl, rfl, rfl, rfl, rfl, rfl⟩ ⟨rfl, rfl, rfl, rfl, rfl, rfl, rfl, rfl, rfl, rfl, rfl⟩) va (by omega) (fun z => by cases z)
  · rw [if_neg (by omega), p4 hcd] at q1
    obtain ⟨b, s', s1, s2⟩ := r_candidate (sc := sc) (h := h1) (φ := φ) (ρ := ρ) r54 vn vw x y
    rw [hcd] at s1
    exact JB_mk (L_candidate_x4 bo q1) (by omega) (q5.kps.rh gr) (q5.kps.out ho) q6 s1 rfl (ri.cg ⟨rfl, rfl, rfl, rfl, rfl, rfl, rfl, rfl⟩ ⟨rfl, rfl, rfl, rfl, rfl, rfl, rfl, rfl, rfl, rfl, rfl⟩) va (by omega) (fun z => by cases z)
end
