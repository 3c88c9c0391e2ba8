/-! PURE 80: both sides after a call: the frame of the proof -/
section
variable {sc : SC} {h h1 h2 : AH} {i k len sn n ch e m : Nat} {c ini φ φ' : Nat → Int32} {X SX ρ ρ' : Nat → Nat → Int32} {H : HTy} {L : List Int32} {K : KTy} {V : VTy} {a b x : Int32}
theorem r_feed (h7 : φ 7 = nI len) (hl : len ≤ 120) (x : Int32) : Call sc n_X10_feed [aD 51, aI x] (rh h φ ρ) = if len < 120 then some (.inl (some (aI (nI (len + 1)))), rh h (upd (upd φ 0 (nI 0)) 7 (nI (len + 1))) (upr ρ 55 (upd (ρ 55) len (narK 1 x)))) else some (.inl (some (aI (nI 0))), rh h (upd φ 0 (nI 1)) ρ) := by
  by_cases h1 : len < 120
  · have hne : ¬ nI len = nI 120 := fun z => by
      have := nI_inj (a := len) (b := 120) (by omega) (by omega) z
      omega
    rw [if_pos h1]
    simp only [c0_X10_feed, e_X10_feed_0, e_X10_feed_5, e_X10_feed_9, e_X10_feed_14, e_X10_feed_19, e_X10_feed_20, e_X10_feed_24, e_X10_feed_28, e_X10_feed_30, e_X10_feed_35, e_X10_feed_40, e_X10_feed_44, rf_0, rf_1, rf_2, rf_3, rf_4, rf_5, rf_6, rf_7, rf_8, rf_9, rf_10, rf_11, rf_12, rf_13, rf_14, rf_15, rf_16, rf_17, rf_18, rf_19, rf_20, rf_21, rf_22, rf_23, rf_24, rf_25, rf_26, rf_27, rf_28, rf_29, rf_30, rf_31, rf_32, rf_33, rf_34, rp_0, rp_2, rp_5, rp_7, rp_8, rp_9, rp_10, rp_12, rp_16, rp_20, rp_21, rp_22, rp_25, rp_27, rp_30, rp_32, bI_r, bO_some, bF_I, bF_D, bF_C, bC_v, pk_mul, nI_add, Option.toList, List.cons_append, List.nil_append, upd_eq, upr_eq, Nat.reduceEqDiff, reduceIte, h7, hne, rs_56 h1, zI_0, if_true, if_false, eq_self, not_true_eq_false, not_false_eq_true, reduceCtorEq]
  · have he : len = 120 := by omega
    subst he
    rw [if_neg h1]
    simp only [c0_X10_feed, e_X10_feed_0, e_X10_feed_5, e_X10_feed_9, e_X10_feed_14, e_X10_feed_19, e_X10_feed_20, e_X10_feed_24, e_X10_feed_28, e_X10_feed_30, e_X10_feed_35, e_X10_feed_40, e_X10_feed_44, rf_0, rf_1, rf_2, rf_3, rf_4, rf_5, rf_6, rf_7, rf_8, rf_9, rf_10, rf_11, rf_12, rf_13, rf_14, rf_15, rf_16, rf_17, rf_18, rf_19, rf_20, rf_21, rf_22, rf_23, rf_24, rf_25, rf_26, rf_27, rf_28, rf_29, rf_30, rf_31, rf_32, rf_33, rf_34, rp_0, rp_2, rp_5, rp_7, rp_8, rp_9, rp_10, rp_12, rp_16, rp_20, rp_21, rp_22, rp_25, rp_27, rp_30, rp_32, bI_r, bO_some, bF_I, bF_D, bF_C, bC_v, pk_mul, nI_add, Option.toList, List.cons_append, List.nil_append, upd_eq, upr_eq, Nat.reduceEqDiff, reduceIte, h7, zI_0, if_true, if_false, eq_self, not_true_eq_false, not_false_eq_true, reduceCtorEq, fail_r, upd_upd]
theorem RI.cg (hr : RI φ ρ len c L sn SX n X ch H ini K V) (hφ : φ' 2 = φ 2 ∧ φ' 5 = φ 5 ∧ φ' 7 = φ 7 ∧ φ' 16 = φ 16 ∧ φ' 22 = φ 22 ∧ φ' 25 = φ 25 ∧ φ' 30 = φ 30 ∧ φ' 32 = φ 32) (hρ : ρ' 52 = ρ 52 ∧ ρ' 53 = ρ 53 ∧ ρ' 54 = ρ 54 ∧ ρ' 55 = ρ 55 ∧ ρ' 59 = ρ 59 ∧ ρ' 60 = ρ 60 ∧ ρ' 63 = ρ 63 ∧ ρ' 64 = ρ 64 ∧ ρ' 68 = ρ 68 ∧ ρ' 69 = ρ 69 ∧ ρ' 70 = ρ 70) : RI φ' ρ' len c L sn SX n X ch H ini K V := by
  obtain ⟨a1, a2, a3, a4, a5, a6, a7, a8⟩ := hφ
  obtain ⟨b1, b2, b3, b4, b5, b6, b7, b8, b9, b10, b11⟩ := hρ
  unfold RI at hr ⊢
  rw [a1, a2, a3, a4, a5, a6, a7, a8, b1, b2, b3, b4, b5, b6, b7, b8, b9, b10, b11]
  exact hr
theorem RI.kf (hr : RI φ ρ len c L sn SX n X ch H ini K V) (hk : KF (upd φ 0 x) φ') (hq : KR ρ ρ') : RI φ' ρ' len c L sn SX n X ch H ini K V := by
  obtain ⟨_, a2, a5, a7, a16, a22, a25, a30, a32⟩ := hk
  exact hr.cg ⟨a2, a5, a7, a16, a22, a25, a30, a32⟩ ⟨hq 52 (by omega), hq 53 (by omega), hq 54 (by omega), hq 55 (by omega), hq 59 (by omega), hq 60 (by omega), hq 63 (by omega), hq 64 (by omega), hq 68 (by omega), hq 69 (by omega), hq 70 (by omega)⟩
theorem INV_of (hr : RH h φ ρ) (ho : OUT h) (hc : CI h len c L sn SX n X ch H ini K V) (hri : RI φ' ρ' len c L sn SX n X ch H ini K V) (hv : VST len L sn SX n X ch H K V) (he : h.2 ≤ i) : INV (rh h φ' ρ') i := by
  have lk := LK.of (hr.fr (φ' := φ') (ρ' := ρ'))
  exact ⟨he, ho.lk lk (by unfold SRH; omega) (by unfold SRH; omega), φ', ρ', len, c, L, sn, SX, n, X, ch, H, ini, K, V, RH.of hr.1, hc.lk lk (fun p hp => by unfold SRH; omega), hri, hv⟩
/-- both sides agree, with a long as the answer -/
def JB (sc : SC) (i : Nat) (cL : Option Res) (cR : AH → Option Res) : Prop := ∃ k b h1 h2, cL = some (.inl (some (aI (nI k))), h1) ∧ k < 5 ∧ rOK sc h1 (aD 51) 12 = true ∧ cR h1 = some (.inl (some (aI b)), h2) ∧ rOK sc h2 (aD 51) 12 = true ∧ Call sc n_X10_thrown [aD 51] h2 = some (.inl (some (aI (nI k))), h2) ∧ (k = 0 → ldL h2 71 (nI 0) = some b.toInt64) ∧ INV h2 i
theorem ldL_r (hr : RH h φ ρ) : ldL (rh h φ' ρ') 71 (nI 0) = ldL h 71 (nI 0) := by
  unfold ldL
  rw [(hr.fr (φ' := φ') (ρ' := ρ')).2.2.1 71 (by unfold SRH; omega)]
theorem ldE_r (hr : RH h φ ρ) : ldE (rh h φ' ρ') 72 (nI 0) = ldE h 72 (nI 0) := by
  unfold ldE
  rw [(hr.fr (φ' := φ') (ρ' := ρ')).2.2.1 72 (by unfold SRH; omega)]
theorem JB_mk {cL : Option Res} {cR : AH → Option Res} (hq : cL = some (.inl (some (aI (nI k))), h)) (hk : k < 5) (hr : RH h φ ρ) (ho : OUT h) (hc : CI h len c L sn SX n X ch H ini K V) (hR : cR (rh h φ ρ) = some (.inl (some (aI b)), rh h φ' ρ')) (h0 : φ' 0 = nI k) (hri : RI φ' ρ' len c L sn SX n X ch H ini K V) (hv : VST len L sn SX n X ch H K V) (he : h.2 ≤ i) (hl : k = 0 → ldL h 71 (nI 0) = some b.toInt64) : JB sc i cL cR := by
  refine ⟨k, b, h, rh h φ' ρ', hq, hk, ?_, ?_, rOK_r, ?_, fun z => (ldL_r hr).trans (hl z), INV_of hr ho hc hri hv he⟩
  · rw [← hr.eq]
    exact rOK_r
  · rw [hr.eq] at hR
    exact hR
  · have := thrown_r (sc := sc) (h := h) (φ := φ') (ρ := ρ')
    rw [h0] at this
    exact this
theorem RH.s72 (g : RH h φ ρ) (l : LK (fun p => p = 71) 0 h h1) : RH h1 φ ρ := g.lk l (fun p _ _ => by first | omega | (dsimp only; omega))
theorem CI.s72 (g : CI h len c L sn SX n X ch H ini K V) (l : LK (fun p => p = 71) 0 h h1) : CI h1 len c L sn SX n X ch H ini K V := g.lk l (fun p hp => by first | omega | (dsimp only; omega))
theorem RH.s73 (g : RH h φ ρ) (l : LK (fun p => p = 72) 0 h h1) : RH h1 φ ρ := g.lk l (fun p _ _ => by first | omega | (dsimp only; omega))
theorem CI.s73 (g : CI h len c L sn SX n X ch H ini K V) (l : LK (fun p => p = 72) 0 h h1) : CI h1 len c L sn SX n X ch H ini K V := g.lk l (fun p hp => by first | omega | (dsimp only; omega))
end
section
variable {sc : SC} {h : AH} {i : Nat}
theorem J_feed (g : INV h i) (x : Int32) : JB sc (i + 1) (Call sc n_L_feed [aD 0, aI x, aD 71] h) (fun h1 => Call sc n_X10_feed [aD 51, aI x] h1) := by
  obtain ⟨he, ho, φ, ρ, len, c, L, sn, SX, n, X, ch, H, ini, K, V, gr, gc, ri, va⟩ := g; obtain ⟨⟨r7, r56⟩, ⟨r16, r60⟩, ⟨r2, r53⟩, ⟨r54, rX, r5, rH⟩, r61, ⟨r22, rK⟩, ⟨r30, rV⟩⟩ := id ri; obtain ⟨vlen, ⟨vL, vA⟩, ⟨vsn, vsg⟩, ⟨vn, vw⟩, ⟨vch, vH⟩, vK, vV⟩ := id va; subst rX; subst r53; subst r56; obtain ⟨km, ks, bo⟩ := gc.bo
  rcases k_feed (sc := sc) gc vlen x with ⟨hl, h1, q1, q2, q3⟩ | ⟨hl, h1, q1, q2, q3⟩
  · obtain ⟨h2, l1, l2, l3, l4⟩ := L_feed_k bo (q3.kps.out ho) q1
    have q4 := r_feed (sc := sc) (h := h2) (φ := φ) (ρ := ρ) r7 vlen x
    rw [if_pos hl] at q4
    refine JB_mk l1 (by omega) ((q3.kps.rh gr).s72 l4) l3 (q2.s72 l4) q4 rfl ⟨⟨rfl, rfl⟩, ri.2⟩ ⟨by omega, va.2⟩ (by rw [l4.1, q3.1]; omega) (fun _ => l2)
  · have q4 := r_feed (sc := sc) (h := h1) (φ := φ) (ρ := ρ) r7 vlen x
    rw [if_neg hl] at q4
    exact JB_mk (L_feed_x1 bo q1) (by omega) (q3.kps.rh gr) (q3.kps.out ho) q2 q4 rfl (ri.cg ⟨rfl, rfl, rfl, rfl, rfl, rfl, rfl, rfl⟩ ⟨rfl, rfl, rfl, rfl, rfl, rfl, rfl, rfl, rfl, rfl, rfl⟩) va (by rw [q3.1]; omega) (fun z => by omega)
end
