/-! PURE 83: both sides after the other calls -/
theorem f2d_ok : ∀ a, a < 61 → ∀ b, b < 61 → 0 < b → FP.f2d (FP.fdiv (FP.i2f (nI a)) (FP.i2f (nI b))) &&& 0x7fffffffffffffff ≤ 0x7ff0000000000000 ∧ (Op.cmpValue (FP.dcmp (FP.f2d (FP.fdiv (FP.i2f (nI a)) (FP.i2f (nI b)))) (FP.f2d (FP.fdiv (FP.i2f (nI a)) (FP.i2f (nI b))))) .l) = 0 := by decide +kernel
/-- both sides agree, no exception at all -/
def JA (sc : SC) (i : Nat) (cL : Option Res) (cR : AH → Option Res) : Prop := ∃ a h1 h2, cL = some (.inl (some (aI a)), h1) ∧ rOK sc h1 (aD 51) 12 = true ∧ cR h1 = some (.inl (some (aI a)), h2) ∧ INV h2 i
def JI (sc : SC) (i : Nat) (cL : Option Res) (cR : AH → Option Res) : Prop := ∃ k b h1 h2, cL = some (.inl (some (aI (nI k))), h1) ∧ k < 5 ∧ rOK sc h1 (aD 51) 12 = true ∧ cR h1 = some (.inl (some (aI (zI b))), h2) ∧ rOK sc h2 (aD 51) 12 = true ∧ Call sc n_X10_thrown [aD 51] h2 = some (.inl (some (aI (nI k))), h2) ∧ (k = 0 → ldL h2 71 (nI 0) = some (if b = true then 1 else 0)) ∧ INV h2 i
def JD (sc : SC) (i : Nat) (cL : Option Res) (cR : AH → Option Res) : Prop := ∃ k b h1 h2, cL = some (.inl (some (aI (nI k))), h1) ∧ k < 5 ∧ rOK sc h1 (aD 51) 12 = true ∧ cR h1 = some (.inl (some (aE b)), h2) ∧ rOK sc h2 (aD 51) 12 = true ∧ Call sc n_X10_thrown [aD 51] h2 = some (.inl (some (aI (nI k))), h2) ∧ (k = 0 → ldE h2 72 (nI 0) = some b) ∧ INV h2 i
def JF (sc : SC) (i : Nat) (cL : Option Res) (cR : AH → Option Res) : Prop := ∃ k b h1 h2, cL = some (.inl (some (aI (nI k))), h1) ∧ k < 5 ∧ rOK sc h1 (aD 51) 12 = true ∧ cR h1 = some (.inl (some (aF b)), h2) ∧ rOK sc h2 (aD 51) 12 = true ∧ Call sc n_X10_thrown [aD 51] h2 = some (.inl (some (aI (nI k))), h2) ∧ (k = 0 → ldE h2 72 (nI 0) = some (FP.f2d b) ∧ FP.f2d b &&& 0x7fffffffffffffff ≤ 0x7ff0000000000000 ∧ (Op.cmpValue (FP.dcmp (FP.f2d b) (FP.f2d b)) .l) = 0) ∧ INV h2 i
section
variable {sc : SC} {h h1 h2 : AH} {i k len sn n ch e m km ks : Nat} {c ini φ φ' : Nat → Int32} {X SX ρ ρ' : Nat → Nat → Int32} {H : HTy} {L : List Int32} {K : KTy} {V : VTy} {a b x y : Int32} {kp sv : Bool}
theorem JA_mk {cL : Option Res} {cR : AH → Option Res} (hq : cL = some (.inl (some (aI a)), h)) (hr : RH h φ ρ) (ho : OUT h) (hc : CI h len c L sn SX n X ch H ini K V) (hR : cR (rh h φ ρ) = some (.inl (some (aI a)), rh h φ' ρ')) (hri : RI φ' ρ' len c L sn SX n X ch H ini K V) (hv : VST len L sn SX n X ch H K V) (he : h.2 ≤ i) : JA sc i cL cR := by
  refine ⟨a, h, rh h φ' ρ', hq, ?_, ?_, INV_of hr ho hc hri hv he⟩
  · rw [← hr.eq]
    exact rOK_r
  · rw [hr.eq] at hR
    exact hR
theorem J3_mk {cL : Option Res} {cR : AH → Option Res} {A : AV} (hq : cL = some (.inl (some (aI (nI k))), h)) (hr : RH h φ ρ) (ho : OUT h) (hc : CI h len c L sn SX n X ch H ini K V) (hR : cR (rh h φ ρ) = some (.inl (some A), rh h φ' ρ')) (h0 : φ' 0 = nI k) (hri : RI φ' ρ' len c L sn SX n X ch H ini K V) (hv : VST len L sn SX n X ch H K V) (he : h.2 ≤ i) : cL = some (.inl (some (aI (nI k))), h) ∧ rOK sc h (aD 51) 12 = true ∧ cR h = some (.inl (some A), rh h φ' ρ') ∧ rOK sc (rh h φ' ρ') (aD 51) 12 = true ∧ Call sc n_X10_thrown [aD 51] (rh h φ' ρ') = some (.inl (some (aI (nI k))), rh h φ' ρ') ∧ INV (rh h φ' ρ') i := by
  refine ⟨hq, ?_, ?_, rOK_r, ?_, INV_of hr ho hc hri hv he⟩
  · rw [← hr.eq]
    exact rOK_r
  · rw [hr.eq] at hR
    exact hR
  · have := thrown_r (sc := sc) (h := h) (φ := φ') (ρ := ρ')
    rw [h0] at this
    exact this
theorem L_isIndependent_k {bb : Bool} (bo : BO h km ks kp sv) (ho : OUT h1) (hq : Call sc n_X9_isIndependent [aD 0, aI x, aI y] h = some (.inl (some (aI (zI bb))), h1)) : ∃ h2, Call sc n_L_isIndependent [aD 0, aI x, aI y, aD 71] h = some (.inl (some (aI (nI 0))), h2) ∧ ldL h2 71 (nI 0) = some (if bb = true then 1 else 0) ∧ OUT h2 ∧ LK (fun p => p = 71) 0 h1 h2 := by
  obtain ⟨h2, e1, e2, e3, e4⟩ := out_L ho (if bb = true then 1 else 0)
  refine ⟨h2, ?_, e2, e3, e4⟩
  have ok0 := bo.ok (sc := sc)
  cases bb
  · rw [if_neg (by decide)] at e1
    simp only [c0_L_isIndependent, e_L_isIndependent_0, e_L_isIndependent_8, e_L_isIndependent_11, e_L_isIndependent_15, e_L_isIndependent_16, e_L_isIndependent_17, ok0, hq, bO_some, bF_I, bF_D, bF_C, bC_v, pk_mul, nI_add, Option.toList, List.cons_append, List.nil_append, zI_0, if_true, if_false, eq_self, not_true_eq_false, not_false_eq_true, reduceCtorEq, e1]
  · rw [if_pos rfl] at e1
    simp only [c0_L_isIndependent, e_L_isIndependent_0, e_L_isIndependent_8, e_L_isIndependent_11, e_L_isIndependent_15, e_L_isIndependent_16, e_L_isIndependent_17, ok0, hq, bO_some, bF_I, bF_D, bF_C, bC_v, pk_mul, nI_add, Option.toList, List.cons_append, List.nil_append, zI_0, if_true, if_false, eq_self, not_true_eq_false, not_false_eq_true, reduceCtorEq, e1]
theorem L_meanSteps_k {d : UInt64} (bo : BO h km ks kp sv) (ho : OUT h1) (hq : Call sc n_X9_meanSteps [aD 0, aI x, aI y] h = some (.inl (some (aE d)), h1)) : ∃ h2, Call sc n_L_meanSteps [aD 0, aI x, aI y, aD 72] h = some (.inl (some (aI (nI 0))), h2) ∧ ldE h2 72 (nI 0) = some d ∧ OUT h2 ∧ LK (fun p => p = 72) 0 h1 h2 := by
  obtain ⟨h2, e1, e2, e3, e4⟩ := out_E ho d
  refine ⟨h2, ?_, e2, e3, e4⟩
  have ok0 := bo.ok (sc := sc)
  simp only [c0_L_meanSteps, e_L_meanSteps_0, e_L_meanSteps_8, e_L_meanSteps_9, ok0, hq, bO_some, bF_I, bF_D, bF_C, bC_v, pk_mul, nI_add, Option.toList, List.cons_append, List.nil_append, e1]
theorem L_filledShare_k {d : UInt32} (bo : BO h km ks kp sv) (ho : OUT h1) (hq : Call sc n_X9_filledShare [aD 0] h = some (.inl (some (aF d)), h1)) (hd : FP.f2d d &&& 0x7fffffffffffffff ≤ 0x7ff0000000000000) : ∃ h2, Call sc n_L_filledShare [aD 0, aD 72] h = some (.inl (some (aI (nI 0))), h2) ∧ ldE h2 72 (nI 0) = some (FP.f2d d) ∧ OUT h2 ∧ LK (fun p => p = 72) 0 h1 h2 := by
  obtain ⟨h2, e1, e2, e3, e4⟩ := out_E ho (FP.f2d d)
  refine ⟨h2, ?_, e2, e3, e4⟩
  have ok0 := bo.ok (sc := sc)
  simp only [c0_L_filledShare, e_L_filledShare_0, e_L_filledShare_6, e_L_filledShare_7, e_L_filledShare_8, ok0, hq, bO_some, bF_I, bF_D, bF_C, bC_v, pk_mul, nI_add, Option.toList, List.cons_append, List.nil_append, bI_t hd, e1]
theorem INV.ok (g : INV h i) : rOK sc h (aD 0) 11 = true := by
  obtain ⟨he, ho, φ, ρ, len, c, L, sn, SX, n, X, ch, H, ini, K, V, gr, gc, ri, va⟩ := g; obtain ⟨⟨r7, r56⟩, ⟨r16, r60⟩, ⟨r2, r53⟩, ⟨r54, rX, r5, rH⟩, r61, ⟨r22, rK⟩, ⟨r30, rV⟩⟩ := id ri; obtain ⟨vlen, ⟨vL, vA⟩, ⟨vsn, vsg⟩, ⟨vn, vw⟩, ⟨vch, vH⟩, vK, vV⟩ := id va; subst rX; subst r53; subst r56; obtain ⟨km, ks, bo⟩ := gc.bo
  exact rOK_D bo
theorem J_isIndependent (g : INV h i) (x y : Int32) : JI sc (i + 1) (Call sc n_L_isIndependent [aD 0, aI x, aI y, aD 71] h) (fun h1 => Call sc n_X10_isIndependent [aD 51, aI x, aI y] h1) := by
  obtain ⟨he, ho, φ, ρ, len, c, L, sn, SX, n, X, ch, H, ini, K, V, gr, gc, ri, va⟩ := g; obtain ⟨⟨r7, r56⟩, ⟨r16, r60⟩, ⟨r2, r53⟩, ⟨r54, rX, r5, rH⟩, r61, ⟨r22, rK⟩, ⟨r30, rV⟩⟩ := id ri; obtain ⟨vlen, ⟨vL, vA⟩, ⟨vsn, vsg⟩, ⟨vn, vw⟩, ⟨vch, vH⟩, vK, vV⟩ := id va; subst rX; subst r53; subst r56; obtain ⟨km, ks, bo⟩ := gc.bo
  obtain ⟨E, q1, q2⟩ := k_isIndependent (sc := sc) gc vn vw x y
  have ex := LK.exc SCl h
  have h3 : cdId n x y = 0 ∨ cdId n x y = 1 := by
    unfold cdId
    split <;> omega
  rcases h3 with hcd | hcd
  · rw [if_pos hcd] at q1
    obtain ⟨h2, l1, l2, l3, l4⟩ := L_isIndependent_k bo ho q1
    obtain ⟨b, s1, s2⟩ := r_isIndependent (sc := sc) (h := h2) (φ := φ) (ρ := ρ) r54 vn vw x y
    rw [hcd] at s1
    obtain ⟨z1, z2, z3, z4, z5, z6⟩ := J3_mk (sc := sc) (i := i + 1) (cR := fun h1 => Call sc n_X10_isIndependent [aD 51, aI x, aI y] h1) l1 (gr.s72 l4) l3 (gc.s72 l4) s1 rfl (ri.cg ⟨rfl, rfl, rfl, rfl, rfl, rfl, rfl, rfl⟩ ⟨rfl, rfl, rfl, rfl, rfl, rfl, rfl, rfl, rfl, rfl, rfl⟩) va (by rw [l4.1]; omega)
    exact ⟨0, b, h2, _, z1, by omega, z2, z3, z4, z5, fun _ => by rw [ldL_r (gr.s72 l4), s2 hcd]; exact l2, z6⟩
  · rw [if_neg (by omega), q2 hcd] at q1
    obtain ⟨b, s1, s2⟩ := r_isIndependent (sc := sc) (h := (h.1, h.2 + 1)) (φ := φ) (ρ := ρ) r54 vn vw x y
    rw [hcd] at s1
    obtain ⟨z1, z2, z3, z4, z5, z6⟩ := J3_mk (sc := sc) (i := i + 1) (cR := fun h1 => Call sc n_X10_isIndependent [aD 51, aI x, aI y] h1) (L_isIndependent_x1 bo q1) (ex.kps.rh gr) (ex.kps.out ho) gc.exc s1 rfl (ri.cg ⟨rfl, rfl, rfl, rfl, rfl, rfl, rfl, rfl⟩ ⟨rfl, rfl, rfl, rfl, rfl, rfl, rfl, rfl, rfl, rfl, rfl⟩) va (by rw [ex.1]; omega)
    exact ⟨1, b, _, _, z1, by omega, z2, z3, z4, z5, fun z => by (cases z), z6⟩
theorem J_meanSteps (g : INV h i) (s x : Int32) : JD sc (i + 1) (Call sc n_L_meanSteps [aD 0, aI s, aI x, aD 72] h) (fun h1 => Call sc n_X10_meanSteps [aD 51, aI s, aI x] h1) := by
  obtain ⟨he, ho, φ, ρ, len, c, L, sn, SX, n, X, ch, H, ini, K, V, gr, gc, ri, va⟩ := g; obtain ⟨⟨r7, r56⟩, ⟨r16, r60⟩, ⟨r2, r53⟩, ⟨r54, rX, r5, rH⟩, r61, ⟨r22, rK⟩, ⟨r30, rV⟩⟩ := id ri; obtain ⟨vlen, ⟨vL, vA⟩, ⟨vsn, vsg⟩, ⟨vn, vw⟩, ⟨vch, vH⟩, vK, vV⟩ := id va; subst rX; subst r53; subst r56; obtain ⟨km, ks, bo⟩ := gc.bo
  obtain ⟨h1, q1, q3, e, q4, q5⟩ := k_meanSteps (sc := sc) gc vn vw s x
  have he1 := q5.1
  have h3 : cd50 x = 0 ∨ cd50 x = 1 := by
    unfold cd50
    split <;> omega
  rcases h3 with hcd | hcd
  · rw [if_pos hcd] at q1
    obtain ⟨h2, l1, l2, l3, l4⟩ := L_meanSteps_k bo (q5.kps.out ho) q1
    obtain ⟨b, φ', ρ', s1, s2, s3, s4⟩ := r_meanSteps (sc := sc) (h := h2) (φ := φ) (ρ := ρ) r54 vn vw s x
    have h0 := s2.1
    rw [hcd] at h0
    obtain ⟨z1, z2, z3, z4, z5, z6⟩ := J3_mk (sc := sc) (i := i + 1) (cR := fun h1 => Call sc n_X10_meanSteps [aD 51, aI s, aI x] h1) l1 ((q5.kps.rh gr).s73 l4) l3 (q3.s73 l4) s1 h0 (ri.kf s2 s3) va (by rw [l4.1]; omega)
    exact ⟨0, b, h2, _, z1, by omega, z2, z3, z4, z5, fun _ => by rw [ldE_r ((q5.kps.rh gr).s73 l4), s4 hcd]; exact l2, z6⟩
  · rw [if_neg (by omega)] at q1
    obtain ⟨b, φ', ρ', s1, s2, s3, s4⟩ := r_meanSteps (sc := sc) (h := h1) (φ := φ) (ρ := ρ) r54 vn vw s x
    have h0 := s2.1
    rw [hcd] at h0
    obtain ⟨z1, z2, z3, z4, z5, z6⟩ := J3_mk (sc := sc) (i := i + 1) (cR := fun h1 => Call sc n_X10_meanSteps [aD 51, aI s, aI x] h1) (L_meanSteps_x1 bo q1) (q5.kps.rh gr) (q5.kps.out ho) q3 s1 h0 (ri.kf s2 s3) va (by omega)
    exact ⟨1, b, _, _, z1, by omega, z2, z3, z4, z5, fun z => by (cases z), z6⟩
theorem J_filledShare (g : INV h i) : JF sc (i + 1) (Call sc n_L_filledShare [aD 0, aD 72] h) (fun h1 => Call sc n_X10_filledShare [aD 51] h1) := by
  obtain ⟨he, ho, φ, ρ, len, c, L, sn, SX, n, X, ch, H, ini, K, V, gr, gc, ri, va⟩ := g; obtain ⟨⟨r7, r56⟩, ⟨r16, r60⟩, ⟨r2, r53⟩, ⟨r54, rX, r5, rH⟩, r61, ⟨r22, rK⟩, ⟨r30, rV⟩⟩ := id ri; obtain ⟨vlen, ⟨vL, vA⟩, ⟨vsn, vsg⟩, ⟨vn, vw⟩, ⟨vch, vH⟩, vK, vV⟩ := id va; subst rX; subst r53; subst r56; obtain ⟨km, ks, bo⟩ := gc.bo
  have q1 := k_filledShare (sc := sc) gc vn vw
  have ex := LK.exc SCl h
  have hB60 := cnt_le n (fun k => kBr (kx (xM n (ρ 53)) k))
  have hC60 := cnt_le n (fun k => esX (xM n (ρ 53)) k)
  by_cases hB : cnt n (fun k => kBr (kx (xM n (ρ 53)) k)) = 0
  · have hcd : cdFs n (xM n (ρ 53)) = 1 := by
      unfold cdFs
      rw [if_pos hB]
    rw [if_neg (by omega)] at q1
    obtain ⟨b, s1, s2⟩ := r_filledShare (sc := sc) (h := (h.1, h.2 + 1)) (φ := φ) (ρ := ρ) r54 vn vw
    rw [hcd] at s1
    obtain ⟨z1, z2, z3, z4, z5, z6⟩ := J3_mk (sc := sc) (i := i + 1) (cR := fun h1 => Call sc n_X10_filledShare [aD 51] h1) (L_filledShare_x1 bo q1) (ex.kps.rh gr) (ex.kps.out ho) gc.exc s1 rfl (ri.cg ⟨rfl, rfl, rfl, rfl, rfl, rfl, rfl, rfl⟩ ⟨rfl, rfl, rfl, rfl, rfl, rfl, rfl, rfl, rfl, rfl, rfl⟩) va (by rw [ex.1]; omega)
    exact ⟨1, b, _, _, z1, by omega, z2, z3, z4, z5, fun z => by (cases z), z6⟩
  · have hcd : cdFs n (xM n (ρ 53)) = 0 := by
      unfold cdFs
      rw [if_neg hB]
    rw [if_pos hcd] at q1
    obtain ⟨d1, d2⟩ := f2d_ok (cnt n (fun k => kBr (kx (xM n (ρ 53)) k)) - cnt n (fun k => esX (xM n (ρ 53)) k)) (by omega) (cnt n (fun k => kBr (kx (xM n (ρ 53)) k))) (by omega) (by omega)
    obtain ⟨h2, l1, l2, l3, l4⟩ := L_filledShare_k bo ho q1 d1
    obtain ⟨b, s1, s2⟩ := r_filledShare (sc := sc) (h := h2) (φ := φ) (ρ := ρ) r54 vn vw
    have hb := s2 hcd
    rw [hcd] at s1
    obtain ⟨z1, z2, z3, z4, z5, z6⟩ := J3_mk (sc := sc) (i := i + 1) (cR := fun h1 => Call sc n_X10_filledShare [aD 51] h1) l1 (gr.s73 l4) l3 (gc.s73 l4) s1 rfl (ri.cg ⟨rfl, rfl, rfl, rfl, rfl, rfl, rfl, rfl⟩ ⟨rfl, rfl, rfl, rfl, rfl, rfl, rfl, rfl, rfl, rfl, rfl⟩) va (by rw [l4.1]; omega)
    refine ⟨0, b, h2, _, z1, by omega, z2, z3, z4, z5, fun _ => ?_, z6⟩
    rw [ldE_r (gr.s73 l4), hb]
    exact ⟨l2, d1, d2⟩
theorem J_clear (g : INV h i) : JA sc (i + 1) (Call sc n_X9_clear [aD 0] h) (fun h1 => Call sc n_X10_clear [aD 51] h1) := by
  obtain ⟨he, ho, φ, ρ, len, c, L, sn, SX, n, X, ch, H, ini, K, V, gr, gc, ri, va⟩ := g; obtain ⟨⟨r7, r56⟩, ⟨r16, r60⟩, ⟨r2, r53⟩, ⟨r54, rX, r5, rH⟩, r61, ⟨r22, rK⟩, ⟨r30, rV⟩⟩ := id ri; obtain ⟨vlen, ⟨vL, vA⟩, ⟨vsn, vsg⟩, ⟨vn, vw⟩, ⟨vch, vH⟩, vK, vV⟩ := id va; subst rX; subst r53; subst r56; obtain ⟨km, ks, bo⟩ := gc.bo
  obtain ⟨h1, q1, q2, q3⟩ := k_clear (sc := sc) gc
  have he1 := q3.1
  have s1 := r_clear (sc := sc) (h := h1) (φ := φ) (ρ := ρ)
  rw [r2] at s1
  have hx : xS 0 (ρ 52) = xC 0 (fun _ => 0) := by
    funext j w
    unfold xS xC nm
    rw [if_neg (by omega), if_neg (by omega)]
  exact JA_mk q1 (q3.kps.rh gr) (q3.kps.out ho) q2 s1 ⟨ri.1, ri.2.1, ⟨rfl, hx⟩, ri.2.2.2⟩ ⟨vlen, ⟨vL, vA⟩, ⟨by omega, ⟨⟨fun i hi => absurd hi (Nat.not_lt_zero i), ⟨fun i hi => absurd hi (Nat.not_lt_zero i), fun i hi => absurd hi (Nat.not_lt_zero i)⟩, fun i hi => absurd hi (Nat.not_lt_zero i)⟩, fun i hi => absurd hi (Nat.not_lt_zero i)⟩⟩, va.2.2.2⟩ (by omega)
theorem J_instructions (g : INV h i) : JA sc (i + 1) (Call sc n_X9_instructions [aD 0] h) (fun h1 => Call sc n_X10_instructions [aD 51] h1) := by
  obtain ⟨he, ho, φ, ρ, len, c, L, sn, SX, n, X, ch, H, ini, K, V, gr, gc, ri, va⟩ := g; obtain ⟨⟨r7, r56⟩, ⟨r16, r60⟩, ⟨r2, r53⟩, ⟨r54, rX, r5, rH⟩, r61, ⟨r22, rK⟩, ⟨r30, rV⟩⟩ := id ri; obtain ⟨vlen, ⟨vL, vA⟩, ⟨vsn, vsg⟩, ⟨vn, vw⟩, ⟨vch, vH⟩, vK, vV⟩ := id va; subst rX; subst r53; subst r56; obtain ⟨km, ks, bo⟩ := gc.bo
  have q1 := k_instructions (sc := sc) gc
  have s1 := r_instructions (sc := sc) (h := h) (φ := φ) (ρ := ρ)
  rw [r2] at s1
  exact JA_mk q1 gr ho gc s1 (ri.cg ⟨rfl, rfl, rfl, rfl, rfl, rfl, rfl, rfl⟩ ⟨rfl, rfl, rfl, rfl, rfl, rfl, rfl, rfl, rfl, rfl, rfl⟩) va (by omega)
theorem J_expand (g : INV h i) : JA sc (i + 1) (Call sc n_X9_expand [aD 0] h) (fun h1 => Call sc n_X10_expand [aD 51] h1) := by
  obtain ⟨he, ho, φ, ρ, len, c, L, sn, SX, n, X, ch, H, ini, K, V, gr, gc, ri, va⟩ := g; obtain ⟨⟨r7, r56⟩, ⟨r16, r60⟩, ⟨r2, r53⟩, ⟨r54, rX, r5, rH⟩, r61, ⟨r22, rK⟩, ⟨r30, rV⟩⟩ := id ri; obtain ⟨vlen, ⟨vL, vA⟩, ⟨vsn, vsg⟩, ⟨vn, vw⟩, ⟨vch, vH⟩, vK, vV⟩ := id va; subst rX; subst r53; subst r56; obtain ⟨km, ks, bo⟩ := gc.bo
  obtain ⟨h1, q1, q2, q3⟩ := k_expand (sc := sc) gc vsn vsg
  have he1 := q3.1
  obtain ⟨g', s1, s2, s3⟩ := r_expand (sc := sc) (h := h1) (φ := φ) (ρ := ρ) vsn r2 vsg.1.1 vsg.1.2.2 vch r5
  have hps := ps_H (H := H) vch vn r54 (fun k hk => ⟨(vH k hk).1, rH k hk⟩)
  have hsv := hs_V (n := n) (X := xM n (ρ 53)) vch ⟨vn, vw⟩ vH
  exact JA_mk q1 (q3.kps.rh gr) (q3.kps.out ho) q2 s1 ⟨ri.1, ri.2.1, ri.2.2.1, ⟨s2, s3, rfl, hps⟩, ri.2.2.2.2⟩ ⟨vlen, ⟨vL, vA⟩, ⟨vsn, vsg⟩, WF_exp vsn vsg, hsv, vK, vV⟩ (by omega)
theorem J_entries (g : INV h i) : JA sc (i + 1) (Call sc n_X9_entries [aD 0] h) (fun h1 => Call sc n_X10_entries [aD 51] h1) := by
  obtain ⟨he, ho, φ, ρ, len, c, L, sn, SX, n, X, ch, H, ini, K, V, gr, gc, ri, va⟩ := g; obtain ⟨⟨r7, r56⟩, ⟨r16, r60⟩, ⟨r2, r53⟩, ⟨r54, rX, r5, rH⟩, r61, ⟨r22, rK⟩, ⟨r30, rV⟩⟩ := id ri; obtain ⟨vlen, ⟨vL, vA⟩, ⟨vsn, vsg⟩, ⟨vn, vw⟩, ⟨vch, vH⟩, vK, vV⟩ := id va; subst rX; subst r53; subst r56; obtain ⟨km, ks, bo⟩ := gc.bo
  have q1 := k_entries (sc := sc) gc
  have s1 := r_entries (sc := sc) (h := h) (φ := φ) (ρ := ρ) r54 vn
  exact JA_mk q1 gr ho gc s1 (ri.cg ⟨rfl, rfl, rfl, rfl, rfl, rfl, rfl, rfl⟩ ⟨rfl, rfl, rfl, rfl, rfl, rfl, rfl, rfl, rfl, rfl, rfl⟩) va (by omega)
theorem J_write (g : INV h i) : JA sc (i + 1) (Call sc n_X9_write [aD 0] h) (fun h1 => Call sc n_X10_write [aD 51] h1) := by
  obtain ⟨he, ho, φ, ρ, len, c, L, sn, SX, n, X, ch, H, ini, K, V, gr, gc, ri, va⟩ := g; obtain ⟨⟨r7, r56⟩, ⟨r16, r60⟩, ⟨r2, r53⟩, ⟨r54, rX, r5, rH⟩, r61, ⟨r22, rK⟩, ⟨r30, rV⟩⟩ := id ri; obtain ⟨vlen, ⟨vL, vA⟩, ⟨vsn, vsg⟩, ⟨vn, vw⟩, ⟨vch, vH⟩, vK, vV⟩ := id va; subst rX; subst r53; subst r56; obtain ⟨km, ks, bo⟩ := gc.bo
  obtain ⟨h1, q1, q2, q3, q4, q5⟩ := k_write (sc := sc) gc vn vw
  have he1 := q3.1
  obtain ⟨f', s1, s2⟩ := r_write (sc := sc) (h := h1) (φ := φ) (ρ := ρ) r54 vn vw
  exact JA_mk q1 (q3.rh gr) (q3.out ho) q2 s1 ⟨ri.1, ⟨rfl, s2⟩, ri.2.2⟩ ⟨vlen, ⟨q4, q5⟩, va.2.2⟩ (by omega)
theorem J_save (g : INV h i) : JA sc (i + 1) (Call sc n_X9_save [aD 0] h) (fun h1 => Call sc n_X10_save [aD 51] h1) := by
  obtain ⟨he, ho, φ, ρ, len, c, L, sn, SX, n, X, ch, H, ini, K, V, gr, gc, ri, va⟩ := g; obtain ⟨⟨r7, r56⟩, ⟨r16, r60⟩, ⟨r2, r53⟩, ⟨r54, rX, r5, rH⟩, r61, ⟨r22, rK⟩, ⟨r30, rV⟩⟩ := id ri; obtain ⟨vlen, ⟨vL, vA⟩, ⟨vsn, vsg⟩, ⟨vn, vw⟩, ⟨vch, vH⟩, vK, vV⟩ := id va; subst rX; subst r53; subst r56; obtain ⟨km, ks, bo⟩ := gc.bo
  obtain ⟨h1, q1, q2, q3⟩ := k_save (sc := sc) gc
  have he1 := q3.1
  have s1 := r_save (sc := sc) (h := h1) (φ := φ) (ρ := ρ)
  rw [r2] at s1
  refine JA_mk q1 (q3.kps.rh gr) (q3.kps.out ho) q2 s1 ⟨ri.1, ri.2.1, ri.2.2.1, ri.2.2.2.1, ri.2.2.2.2.1, ri.2.2.2.2.2.1, rfl, fun v hv => ?_⟩ ⟨vlen, ⟨vL, vA⟩, ⟨vsn, vsg⟩, ⟨vn, vw⟩, ⟨vch, vH⟩, vK, fun v hv => ?_⟩ (by omega)
  · have := Option.some.inj hv
    subst this
    refine ⟨rfl, ?_, ?_, ?_, fun j hj => ?_⟩
    · exact xS_cg vsn (fun j hj => cpy_z (ρ 52) (ρ 68) 120 j hj)
    · exact (cpy_z (ρ 53) (ρ 69) 301 0 (by omega)).trans r54
    · exact xM_cg vn (fun j hj => cpy_z (ρ 53) (ρ 69) 301 j (by omega))
    · exact (cpy_z (ρ 60) (ρ 70) 24 j hj).trans (r61 j hj)
  · have := Option.some.inj hv
    subst this
    exact ⟨⟨vsn, vsg⟩, vn, vw⟩
end
