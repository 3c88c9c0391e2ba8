/-! SOUNDNESS 8: rows of references, copies, Math, Object() -/
/-- of Math the class doesn't call max -/
theorem no_mm : RTl.all (fun r => r.2.all (fun e => !Nat.beq e.2.1 11 || !Nat.beq e.2.2.1 1)) = true := by decide +kernel
theorem mm_use {cn a x y w : Nat} {own : String} {es : List (Nat × Nat × Nat × Nat × Nat)} (hes : RTl[cn]? = some (own, es)) (h : rs cn a = some (11, x, y, w)) : ¬ x = 1 := by
  unfold rs at h
  rw [hes] at h
  have hm := lookup_mem (show es.lookup a = some (11, x, y, w) from h)
  have h1 := List.all_eq_true.mp (List.all_eq_true.mp no_mm (own, es) (List.mem_of_getElem? hes)) _ hm
  intro hx
  subst hx
  exact Bool.noConfusion (show false = true from h1)
section
variable {p : Program} {l : Launch} {e : Env} {R : Room} {s : State} {m : MethodId} {args : Array Value} {below : List Frame} {meth : Method} {c : Code} {Q : State → Prop}
variable {mi : MI} {sc : SC} {A : Nat → Prop} {D : va_G} {dA : Nat → ClassId} {kv : Nat → Value} {c0 s0 : Nat}
variable {pc : Nat} {L : List AV} {dl : DL} {st : List AV} {h : AH} {ls : Array Slot} {vs : List Value} {H : Heap} {locs : List Loc} {cells slots : Nat} {q : Nat → Nat} {ws : va_W} {cf : Cfg}
theorem misc (i : Nat) : True := trivial
theorem w_anewarray {a i9 w9 : Nat} {n : Int32} {r : List AV} (hx : FX p s m meth c R mi) (hk : KC kv sc A s s.heap) (hd : decode (mB mi) pc = .ok (.anewarray a, 3)) (he : rs (mCn mi) a = some (3, ciProg, i9, w9)) (hn : ¬ (n < 0 ∨ 67108864 < n.toNatClampNeg)) (hroom : costC (hpush h (oR n.toNatClampNeg (fun _ => aN))) ≤ c0 + R.cells ∧ costS (hpush h (oR n.toNatClampNeg (fun _ => aN))) ≤ s0 + R.slots) (hr : HR A D dA q kv s H locs h.1 ws) (hl : LR q kv h.1.length ls (mL mi) L dl) (hv : VL q kv h.1.length (aI n :: r) vs) (hc : cells + c0 = costC h) (hs : slots + s0 = costS h) (kk : KK p l e R s m args below meth c Q mi A D dA kv c0 s0 h.1.length q (pc + 3, L, dl, aD h.1.length :: r, hpush h (oR n.toNatClampNeg (fun _ => aN)))) : W p l e R s m args below meth c H locs cells slots Q (F0 m pc ls vs) := by
  obtain ⟨x1, x2, x3, x4, x5, x6, x7, x8, x9, x10, es, x11⟩ := hx
  have hent := ent_use ent_ok3 x11 he
  obtain ⟨ys, rfl, hv2⟩ := hv.I
  obtain ⟨hP, hK, hD, hS, hA, hW⟩ := hr
  obtain ⟨hr1, hr2⟩ := hroom
  have hr1' : (h.1 ++ [oR n.toNatClampNeg (fun _ => aN)]).length + h.2 ≤ c0 + R.cells := hr1
  have hr2' : ((h.1 ++ [oR n.toNatClampNeg (fun _ => aN)]).map osize).sum + 6 * h.2 ≤ s0 + R.slots := hr2
  simp only [List.length_append, List.length_singleton] at hr1'
  simp only [List.map_append, List.sum_append, List.map_cons, List.map_nil, List.sum_cons, List.sum_nil, osize] at hr2'
  have hc' := hc
  have hs' := hs
  unfold costC at hc'
  unfold costS at hs'
  have hn0 : ¬ n < 0 := fun z => hn (Or.inl z)
  have hn1 : n.toNatClampNeg ≤ 67108864 := Nat.not_lt.mp (fun z => hn (Or.inr z))
  have hcl : vwCl[ciProg]? = some (RX6, TX6, 2) := rfl
  unfold eOK at hent
  simp only [hcl] at hent
  split at hent
  · rename_i o i' C r9 hw hr9
    simp only [Bool.and_eq_true, beq_iff_eq, decide_eq_true_eq] at hent
    obtain ⟨⟨⟨rfl, rfl⟩, hC⟩, -⟩ := hent
    have hr9' : r9 = (RX6, TX6, 2) := (Option.some.inj hr9).symm
    subst hr9'
    subst hC
    have hover : (Cond.arrayOver (.object "BranchSlotFiller$Program")).before args s = true := by
      have := misc_ok
      simp only [Bool.and_eq_true] at this
      exact hk.word this.1.1.1.1.1.1.1.1.1 rfl args
    refine va_newq (C := "BranchSlotFiller$Program") x1 x2 x4 (okw_use hk.2.2.2.1 (tb2_of hw) rfl args) hover hK hP hD hS hA hn0 rfl (by omega) (by omega) (by omega) hd (fun a9 cA H1 gK g1 g2 g3 => ?_)
    have hcA : cA = dA 6 := by
      obtain ⟨-, -, -, -, -, h1⟩ := (hK.2 6 _ rfl).2
      obtain ⟨-, -, -, -, -, h2⟩ := (gK.2 7 (cA, .object "BranchSlotFiller$Program") rfl).2
      exact Option.some.inj (h2.symm.trans h1)
    subst hcA
    exact kk_push kk g1 hK g2 g3 hA hW ⟨hn1, _, rfl, fun _ => rfl⟩ hl hv2 hc hs
  · cases hent
theorem fits_nar {t : Nat} {x : Int32} (ht : t = 2) (h : narK t x = x) : fits .byte (.int x) = true := by
  subst ht
  have h1 : vp_nar .byte x = x := h
  rw [vp_nar_byte] at h1
  rw [← h1]
  exact pk_fb x
theorem ite_some9 {c : Prop} [Decidable c] {α : Type} {a b : α} (h : (if c then some a else none) = some b) : c ∧ a = b := by
  split at h
  · exact ⟨by assumption, Option.some.inj h⟩
  · cases h
theorem w_copy {a w1 w2 w3 q9 : Nat} {v : AV} {n dp sp : Int32} {r : List AV} {h' : AH} (hx : FX p s m meth c R mi) (hk : KC kv sc A s s.heap) (hd : decode (mB mi) pc = .ok (.invokestatic a, 3)) (he : rs (mCn mi) a = some (7, w1, w2, w3)) (hw8 : aWt r ≤ 8) (hg : copyA sc h v sp q9 dp n = some h') (hr : HR A D dA q kv s H locs h.1 ws) (hl : LR q kv h.1.length ls (mL mi) L dl) (hv : VL q kv h.1.length (aI n :: aI dp :: aD q9 :: aI sp :: v :: r) vs) (hc : cells + c0 = costC h) (hs : slots + s0 = costS h) (kk : KK p l e R s m args below meth c Q mi A D dA kv c0 s0 h.1.length q (pc + 3, L, dl, r, h')) : W p l e R s m args below meth c H locs cells slots Q (F0 m pc ls vs) := by
  obtain ⟨x1, x2, x3, x4, x5, x6, x7, x8, x9, x10, es, x11⟩ := hx
  have hent := ent_use ent_ok7 x11 he
  obtain ⟨xs, rfl, hv1⟩ := hv.I
  obtain ⟨xs, rfl, hv2⟩ := hv1.I
  obtain ⟨xs, rfl, hq9, hv3⟩ := hv2.D
  obtain ⟨xs, rfl, hv4⟩ := hv3.I
  obtain ⟨y, ys, rfl, hv5, hv6⟩ := hv4.cons
  obtain ⟨hP, hK, hD, hS, hA, hW⟩ := id hr
  unfold eOK at hent
  simp only [decide_eq_true_eq] at hent
  have hlink : (Cond.methodLink (mOwn mi) a arraycopyName).before args s = true := okw_use hk.2.2.2.1 (tb2_of (mlk_sp hent)) rfl args
  have hm := misc_ok
  simp only [Bool.and_eq_true, decide_eq_true_eq] at hm
  have hnat : (Cond.native arraycopyName).before args s = true := hk.word hm.1.1.1.1.1.1.2 rfl args
  have hstat : (Cond.static arraycopyName).before args s = true := hk.word hm.1.1.1.1.1.2 rfl args
  have hini : (Cond.initialized "java/lang/System").before args s = true := hk.word hm.1.1.1.1.2 rfl args
  have hwt : (ys.map fun v => v.category).sum ≤ 8 := by rw [hv6.wt hk.1]; exact hw8
  have hlocals : (ys.map fun v => v.category).sum + (nativeFrameWords "java/lang/System" "arraycopy" 5 + 11) ≤ R.locals := by
    have : nativeFrameWords "java/lang/System" "arraycopy" 5 ≤ 40 := by decide
    omega
  unfold copyA at hg
  split at hg
  · rename_i t n0 f t' n1 g ho ho1
    obtain ⟨⟨htt, hkind, h1, h2, h3, h4, h5, hfit⟩, hhh⟩ := ite_some9 hg
    · subst htt
      subst hhh
      obtain ⟨e9, hwq, ht4, hn1, rfl⟩ := hr.obj ho1
      have hfit' : ∀ i, i < n.toNatClampNeg → fits (tyT t) (.int (f (sp.toNatClampNeg + i))) = true := by
        intro i hi
        rcases hkind with ht2 | ⟨ht0, -⟩
        · subst ht2
          simp only [if_neg (show ¬ (2 : Nat) = 0 by decide)] at hfit
          have := List.all_eq_true.mp hfit i (List.mem_range.mpr hi)
          exact fits_nar rfl (of_decide_eq_true this)
        · subst ht0
          rfl
      rcases v with i9 | pp | kc | u | i9 | i9 | i9 | u
      all_goals first | (simp [oget] at ho; done) | skip
      · obtain ⟨hp, rfl⟩ := hv5
        obtain ⟨e8, hwp, -, hn0, rfl⟩ := hr.obj ho
        refine va_copyi (ty := tyT t) x1 x2 (by rw [x3]; exact hl.size.symm) x4 hlink hnat hstat hini hK hP hD hS pp q9 t t hwp hwq (tys_get dA ht4) (tys_get dA ht4) (by match t, ht4 with
          | 0, _ => rfl
          | 1, _ => rfl
          | 2, _ => rfl
          | 3, _ => rfl) h1 h2 h3 h4 h5 hfit' (by omega) hlocals hd (fun H1 locs1 g1 g2 g3 => ?_)
        exact kk_set kk ho1 rfl ⟨g1, hK, g2, g3, hA, hW.set hq9 ⟨ht4, hn1, rfl⟩⟩ hl hv6 hc hs
      · have hy : y = kv kc := hv5
        have ht2 : t = 2 := by
          rcases hkind with h9 | ⟨-, h9⟩
          · exact h9
          · simp at h9
        subst ht2
        obtain ⟨-, a9, ha9, hT⟩ := hk.2.2.1.2.2.1 kc 2 n0 f ho
        rw [hy, ha9]
        refine vk_copyt x1 x2 (by rw [x3]; exact hl.size.symm) x4 hlink hnat hstat hini hK hP hD hS hT q9 2 hwq (tys_get dA ht4) h1 h2 h3 h4 h5 hfit' (by omega) hlocals hd (fun H1 locs1 g1 g2 g3 => ?_)
        exact kk_set kk ho1 rfl ⟨g1, hK, g2, g3, hA, hW.set hq9 ⟨ht4, hn1, rfl⟩⟩ hl hv6 hc hs
  · cases hg
theorem w_min {a w2 w3 : Nat} {x y : Int32} {r : List AV} (hx : FX p s m meth c R mi) (hk : KC kv sc A s s.heap) (hd : decode (mB mi) pc = .ok (.invokestatic a, 3)) (he : rs (mCn mi) a = some (11, 0, w2, w3)) (hw8 : aWt r ≤ 8) (hroom : costC h ≤ c0 + R.cells ∧ costS h ≤ s0 + R.slots) (hr : HR A D dA q kv s H locs h.1 ws) (hl : LR q kv h.1.length ls (mL mi) L dl) (hv : VL q kv h.1.length (aI y :: aI x :: r) vs) (hc : cells + c0 = costC h) (hs : slots + s0 = costS h) (kk : KK p l e R s m args below meth c Q mi A D dA kv c0 s0 h.1.length q (pc + 3, L, dl, aI (if y < x then y else x) :: r, h)) : W p l e R s m args below meth c H locs cells slots Q (F0 m pc ls vs) := by
  obtain ⟨x1, x2, x3, x4, x5, x6, x7, x8, x9, x10, es, x11⟩ := hx
  have hent := ent_use ent_ok11 x11 he
  obtain ⟨xs, rfl, hv1⟩ := hv.I
  obtain ⟨ys, rfl, hv2⟩ := hv1.I
  unfold eOK at hent
  simp only [decide_eq_true_eq] at hent
  have hm := misc_ok
  have hm2 := misc_ok2
  simp only [Bool.and_eq_true, decide_eq_true_eq] at hm hm2
  have hwt : (ys.map fun v => v.category).sum ≤ 8 := by rw [hv2.wt hk.1]; exact hw8
  exact va_mmin x1 x2 (by rw [x3]; exact hl.size.symm) x4 (okw_use hk.2.2.2.1 (tb2_of (mlk_sp hent)) rfl args) (hk.word hm.1.1.2 rfl args) (hk.word hm.1.1.1.2 rfl args) (hk.word hm2.1.1 rfl args) (by omega) (by omega) (by omega) (by omega) hd (kk0 kk hr hc hs hl ⟨rfl, hv2⟩)
theorem w_max {a w2 w3 : Nat} {x y : Int32} {r : List AV} (hx : FX p s m meth c R mi) (hk : KC kv sc A s s.heap) (hd : decode (mB mi) pc = .ok (.invokestatic a, 3)) (he : rs (mCn mi) a = some (11, 1, w2, w3)) (hw8 : aWt r ≤ 8) (hroom : costC h ≤ c0 + R.cells ∧ costS h ≤ s0 + R.slots) (hr : HR A D dA q kv s H locs h.1 ws) (hl : LR q kv h.1.length ls (mL mi) L dl) (hv : VL q kv h.1.length (aI y :: aI x :: r) vs) (hc : cells + c0 = costC h) (hs : slots + s0 = costS h) (kk : KK p l e R s m args below meth c Q mi A D dA kv c0 s0 h.1.length q (pc + 3, L, dl, aI (if x < y then y else x) :: r, h)) : W p l e R s m args below meth c H locs cells slots Q (F0 m pc ls vs) := by
  obtain ⟨x1, x2, x3, x4, x5, x6, x7, x8, x9, x10, es, x11⟩ := hx
  exact absurd rfl (mm_use x11 he)
theorem w_abs {a w2 w3 : Nat} {x : Int32} {r : List AV} (hx : FX p s m meth c R mi) (hk : KC kv sc A s s.heap) (hd : decode (mB mi) pc = .ok (.invokestatic a, 3)) (he : rs (mCn mi) a = some (11, 2, w2, w3)) (hw8 : aWt r ≤ 8) (hroom : costC h ≤ c0 + R.cells ∧ costS h ≤ s0 + R.slots) (hr : HR A D dA q kv s H locs h.1 ws) (hl : LR q kv h.1.length ls (mL mi) L dl) (hv : VL q kv h.1.length (aI x :: r) vs) (hc : cells + c0 = costC h) (hs : slots + s0 = costS h) (kk : KK p l e R s m args below meth c Q mi A D dA kv c0 s0 h.1.length q (pc + 3, L, dl, aI (if 0 ≤ x then x else 0 - x) :: r, h)) : W p l e R s m args below meth c H locs cells slots Q (F0 m pc ls vs) := by
  obtain ⟨x1, x2, x3, x4, x5, x6, x7, x8, x9, x10, es, x11⟩ := hx
  have hent := ent_use ent_ok11 x11 he
  obtain ⟨ys, rfl, hv2⟩ := hv.I
  unfold eOK at hent
  simp only [decide_eq_true_eq] at hent
  have hm := misc_ok
  have hm2 := misc_ok2
  simp only [Bool.and_eq_true, decide_eq_true_eq] at hm hm2
  have hwt : (ys.map fun v => v.category).sum ≤ 8 := by rw [hv2.wt hk.1]; exact hw8
  exact va_mabs x1 x2 (by rw [x3]; exact hl.size.symm) x4 (okw_use hk.2.2.2.1 (tb2_of (mlk_sp hent)) rfl args) (hk.word hm.2 rfl args) (hk.word hm.1.1.1.2 rfl args) (hk.word hm2.2 rfl args) (by omega) (by omega) (by omega) (by omega) hd (kk0 kk hr hc hs hl ⟨rfl, hv2⟩)
theorem w_objInit {a w1 w2 w3 : Nat} {v : AV} {r : List AV} (hx : FX p s m meth c R mi) (hk : KC kv sc A s s.heap) (hd : decode (mB mi) pc = .ok (.invokespecial a, 3)) (he : rs (mCn mi) a = some (6, w1, w2, w3)) (ho : aObj v = true) (hw8 : aWt r ≤ 8) (hr : HR A D dA q kv s H locs h.1 ws) (hl : LR q kv h.1.length ls (mL mi) L dl) (hv : VL q kv h.1.length (v :: r) vs) (hc : cells + c0 = costC h) (hs : slots + s0 = costS h) (kk : KK p l e R s m args below meth c Q mi A D dA kv c0 s0 h.1.length q (pc + 3, L, dl, r, h)) : W p l e R s m args below meth c H locs cells slots Q (F0 m pc ls vs) := by
  obtain ⟨x1, x2, x3, x4, x5, x6, x7, x8, x9, x10, es, x11⟩ := hx
  have hent := ent_use ent_ok6 x11 he
  obtain ⟨a9, ys, rfl, hv1, hv2⟩ := hv.obj hk.1 ho
  unfold eOK at hent
  simp only [decide_eq_true_eq] at hent
  have hm := misc_ok
  simp only [Bool.and_eq_true, decide_eq_true_eq] at hm
  have hwt : (ys.map fun v => v.category).sum ≤ 8 := by rw [hv2.wt hk.1]; exact hw8
  refine W.objInit x1 x2 x4 (okw_use hk.2.2.2.1 (tb2_of (mlk_sp hent)) rfl args) (hk.word hm.1.1.1.1.1.1.1.1.2 rfl args) (hk.word hm.1.1.1.1.1.1.1.2 rfl args) rfl (by rw [x3]; exact hl.size) rfl hd (by omega) ?_ ?_
  · show 2 * (F0 m pc ls (.ref a9 :: ys)).monitorRoom + (ys.map fun v => v.category).sum + 12 ≤ R.locals
    have : (F0 m pc ls (.ref a9 :: ys)).monitorRoom = 0 := rfl
    omega
  · exact W.eq (g2 := F0 m (pc + 3) ls ys) rfl (kk0 kk hr hc hs hl hv2)
end
