/-! PURE 84: both sides after a run -/
section
variable {sc : SC} {h : AH} {i len sn n ch a q0 N0 : Nat} {c ini φ f0 : Nat → Int32} {X SX ρ Y : Nat → Nat → Int32} {H : HTy} {L : List Int32} {K : KTy} {V : VTy} {hs : Bool}
theorem J_runs (x : Int32) (he : h.2 ≤ i) (ho : OUT h) (gr : RH h φ ρ) (gc : CI h len c L sn SX n X ch H ini K V) (ri : RI φ ρ len c L sn SX n X ch H ini K V) (va : VST len L sn SX n X ch H K V) (gp : PG h q0 N0 a f0) (hx : xC a f0 = Y) (hq : q0 = 7 ∨ q0 = 9) (hqs : q0 = if hs = true then 9 else 7) (hv : VK a Y ∧ VG a Y ∧ VT a Y) (hf : VF a Y ∨ (hs = false ∧ ∀ k, k < a → kBr (kx Y k) = true → ltX Y k ≤ a)) (hpp : ∀ h2 φ' ρ', φ' 2 = φ 2 → ρ' 52 = ρ 52 → ρ' 53 = ρ 53 → PP sc h2 φ' ρ' hs a Y) (hm : (hs = true → ρ 53 0 = nI a) ∧ (hs = false → φ 2 = nI a)) : JB sc (i + 1) (Call sc n_L_run [aD 0, aI (zI hs), aI x, aD 71] h) (fun h1 => Call sc n_X10_run [aD 51, aI (zI hs), aI x] h1) := by
  obtain ⟨km, ks, bo⟩ := gc.bo
  obtain ⟨E, h1, q1, q2, q3, q4, q5, e, q6, q7⟩ := k_runs (sc := sc) gc hs gp hx hq hqs hv hf x
  have he1 := q7.1
  have r61 := ri.2.2.2.2.1
  obtain ⟨a1, a2, a3, a4, a5, a6⟩ := run_ag (L := x.toNatClampNeg) (hs := hs) hv.2.1 r61
  have hcdE : cdRu a x (runX Y a hs (ρ 60) x.toNatClampNeg) = cdRu a x (runX Y a hs ini x.toNatClampNeg) := by
    unfold cdRu
    rw [a1]
  have hrun := fun h2 => r_run (sc := sc) (h := h2) (hpp h2) hm x
  rw [hcdE] at hrun
  generalize runX Y a hs ini x.toNatClampNeg = R at *
  generalize runX Y a hs (ρ 60) x.toNatClampNeg = R' at *
  have h3 : cdRu a x R = 0 ∨ cdRu a x R = 1 ∨ cdRu a x R = 2 := by
    unfold cdRu
    repeat (split <;> try omega)
  rcases h3 with hcd | hcd | hcd
  · rw [if_pos hcd] at q1
    obtain ⟨g1, g2⟩ := q4 hcd
    obtain ⟨h2, l1, l2, l3, l4⟩ := L_run_k bo (q7.kps.out ho) q1
    obtain ⟨b, φ', ρ', s1, s2, s3, s4, s5, s6⟩ := hrun h2
    rw [hcd] at s2
    obtain ⟨t1, t2, t3, t4, t5⟩ := s3 hcd
    rw [a6] at t1
    rw [a5] at t3 t5
    refine JB_mk l1 (by omega) ((q7.kps.rh gr).s72 l4) l3 (g1.s72 l4) s1 s2 (ri.run t2 t3 (fun j hj => (t4 j hj).trans (a3 j hj)) (fun j hj => ?_) s5 s6) ⟨va.1, va.2.1, va.2.2.1, va.2.2.2.1, va.2.2.2.2.1, fun k hk => ?_, va.2.2.2.2.2.2⟩ (by rw [l4.1]; omega) (fun _ => by rw [t1]; exact l2)
    · refine (t5 j hj).trans (a4 j ?_)
      rw [a5]
      exact hj
    · have := Option.some.inj hk
      subst this
      exact g2
  · have hne : ¬ cdRu a x R = 0 := by omega
    rw [if_neg hne, q2 hcd] at q1
    obtain ⟨b, φ', ρ', s1, s2, s3, s4, s5, s6⟩ := hrun h1
    rw [hcd] at s2
    obtain ⟨t1, t2, t3, t4⟩ := s4 hne
    obtain ⟨u1, u2, u3, u4, u5, u6⟩ := s5
    exact JB_mk (L_run_x1 bo q1) (by omega) (q7.kps.rh gr) (q7.kps.out ho) (q5 hne) s1 s2 (ri.cg ⟨u1, u2, u3, u4, t1, t2, u5, u6⟩ ⟨s6 52 (by omega), s6 53 (by omega), s6 54 (by omega), s6 55 (by omega), s6 59 (by omega), s6 60 (by omega), t3, t4, s6 68 (by omega), s6 69 (by omega), s6 70 (by omega)⟩) va (by omega) (fun z => by cases z)
  · have hne : ¬ cdRu a x R = 0 := by omega
    rw [if_neg hne, q3 hcd] at q1
    obtain ⟨b, φ', ρ', s1, s2, s3, s4, s5, s6⟩ := hrun h1
    rw [hcd] at s2
    obtain ⟨t1, t2, t3, t4⟩ := s4 hne
    obtain ⟨u1, u2, u3, u4, u5, u6⟩ := s5
    exact JB_mk (L_run_x2 bo q1) (by omega) (q7.kps.rh gr) (q7.kps.out ho) (q5 hne) s1 s2 (ri.cg ⟨u1, u2, u3, u4, t1, t2, u5, u6⟩ ⟨s6 52 (by omega), s6 53 (by omega), s6 54 (by omega), s6 55 (by omega), s6 59 (by omega), s6 60 (by omega), t3, t4, s6 68 (by omega), s6 69 (by omega), s6 70 (by omega)⟩) va (by omega) (fun z => by cases z)
theorem J_run (g : INV h i) (hs : Bool) (x : Int32) : JB sc (i + 1) (Call sc n_L_run [aD 0, aI (zI hs), aI x, aD 71] h) (fun h1 => Call sc n_X10_run [aD 51, aI (zI hs), aI x] h1) := by
  obtain ⟨he, ho, φ, ρ, len, c, L, sn, SX, n, X, ch, H, ini, K, V, gr, gc, ri, va⟩ := g; obtain ⟨⟨r7, r56⟩, ⟨r16, r60⟩, ⟨r2, r53⟩, ⟨r54, rX, r5, rH⟩, r61, ⟨r22, rK⟩, ⟨r30, rV⟩⟩ := id ri; obtain ⟨vlen, ⟨vL, vA⟩, ⟨vsn, vsg⟩, ⟨vn, vw⟩, ⟨vch, vH⟩, vK, vV⟩ := id va; subst rX; subst r53; subst r56; obtain ⟨km, ks, bo⟩ := gc.bo
  cases hs
  · obtain ⟨f, s1, s2⟩ := gc.2.2.1
    refine J_runs x he ho gr gc ri va s1 s2 (Or.inl rfl) rfl ⟨vsg.1.1, vsg.1.2.1, vsg.1.2.2⟩ (Or.inr ⟨rfl, lt_of (by omega) vsg.1.2.2⟩) (fun h2 φ' ρ' z1 z2 z3 => ?_) ⟨(fun z => by cases z), fun _ => r2⟩
    have z := PP_f (sc := sc) (h := h2) (φ := φ') (ρ := ρ') (sn := sn) vsn (by rw [z2]; exact vsg.1.1) (by rw [z2]; exact vsg.1.2.1) (by rw [z2]; exact vsg.1.2.2)
    rw [z2] at z
    exact z
  · obtain ⟨_, _, ⟨f, s1, s2⟩, _⟩ := gc.2.2.2.1
    refine J_runs x he ho gr gc ri va s1 s2 (Or.inr rfl) rfl ⟨vw.1, VG_of vw, vw.2.1⟩ (Or.inl (VF_of vw.2.1 vw.2.2.1 (by omega))) (fun h2 φ' ρ' z1 z2 z3 => ?_) ⟨fun _ => r54, (fun z => by cases z)⟩
    have z := PP_t (sc := sc) (h := h2) (φ := φ') (ρ := ρ') (n := n) (by rw [z3]; exact r54) vn (by rw [z3]; exact vw)
    rw [z3] at z
    exact z
end
