/-! SOUNDNESS 7: statics, constants, new objects and rows, copies, Math -/
theorem mlk_sp {own : String} {i : Nat} {w : Option Cond} {y : MethodName} (h : mlk own i w = some y) : w = some (.methodLink own i y) := by
  unfold mlk at h
  split at h
  · split at h
    · rename_i hc
      simp only [Bool.and_eq_true, beq_iff_eq] at hc
      obtain ⟨rfl, rfl⟩ := hc
      cases h
      rfl
    · cases h
  · cases h
def svK (v : AV) : Bool := match v with
  | .inl _ => true
  | .inr (.inr (.inl _)) => true
  | .inr (.inr (.inr (.inr (.inr (.inr (.inr _)))))) => true
  | _ => false
theorem sv_ok : SVl.all svK = true := by decide
set_option maxRecDepth 100000 in
theorem arr_ok : ([FieldType.int, .char, .byte, .boolean, .long, .double].all fun t => lw_tbl.contains (.arrayClass t)) = true := by decide +kernel
set_option maxRecDepth 100000 in
theorem inst_ok : (vwCl.drop 4).all (fun r => lw_tbl.contains (.instantiable r.1 r.2.2) && lw_tbl.contains (.initialized r.1)) = true := by decide +kernel
set_option maxRecDepth 100000 in
theorem inst_ok1 : ((vwCl.drop 1).take 1).all (fun r => lw_tbl.contains (.instantiable r.1 r.2.2) && lw_tbl.contains (.initialized r.1)) = true := by decide +kernel
set_option maxRecDepth 100000 in
theorem misc_ok : lw_tbl.contains (.arrayOver (.object "BranchSlotFiller$Program")) && lw_tbl.contains (.instanceMethod Lib.objectInit) && lw_tbl.contains (.code Lib.objectInit ⟨#[0xb1]⟩ 1 none) && lw_tbl.contains (.native arraycopyName) && lw_tbl.contains (.static arraycopyName) && lw_tbl.contains (.initialized "java/lang/System") && lw_tbl.contains (.initialized "java/lang/Math") && lw_tbl.contains (.static Lib.Math.min.name) && lw_tbl.contains (.static Lib.Math.min.name) && lw_tbl.contains (.static Lib.Math.abs.name) = true := by decide +kernel
set_option maxRecDepth 100000 in
theorem misc_ok2 : lw_tbl.contains (.code Lib.Math.min.name Lib.Math.min.code 2 (some .int)) && lw_tbl.contains (.code Lib.Math.min.name Lib.Math.min.code 2 (some .int)) && lw_tbl.contains (.code Lib.Math.abs.name Lib.Math.abs.code 1 (some .int)) = true := by decide +kernel
theorem made_ok : RTl.all (fun r => r.2.all (fun e => !Nat.beq e.2.1 3 || Nat.beq e.2.2.1 1 || Nat.ble 4 e.2.2.1)) = true := by decide +kernel
theorem ctn {w : Cond} (h : lw_tbl.contains w = true) : w ∈ lw_tb2 := List.mem_append_left _ (List.contains_iff_mem.mp h)
theorem VL.of {q : Nat → Nat} {kv : Nat → Value} {n : Nat} : ∀ {vs : List AV} {xs : List Value}, xs.length = vs.length → (∀ (k : Nat) (v : AV) (x : Value), vs[k]? = some v → xs[k]? = some x → Vr q kv n v x) → VL q kv n vs xs
  | [], [], _, _ => trivial
  | v :: vs, x :: xs, hl, h => ⟨h 0 v x rfl rfl, VL.of (by simpa using hl) (fun k v x a b => h (k + 1) v x (by simpa using a) (by simpa using b))⟩
  | [], _ :: _, hl, _ => by simp at hl
  | _ :: _, [], hl, _ => by simp at hl
theorem dfl_ok {q : Nat → Nat} {kv : Nat → Value} {n t : Nat} {ty : FieldType} (h : ftOK t ty = true) : Vr q kv n (dfl t) (defaultValue ty) := by
  match t, ty, h with
  | 0, .int, _ => rfl
  | 1, .boolean, _ => rfl
  | 2, .byte, _ => rfl
  | 3, .object C, _ => rfl
  | 3, .array z, _ => rfl
section
variable {p : Program} {l : Launch} {e : Env} {R : Room} {s : State} {m : MethodId} {args : Array Value} {below : List Frame} {meth : Method} {c : Code} {Q : State → Prop}
variable {mi : MI} {sc : SC} {A : Nat → Prop} {D : va_G} {dA : Nat → ClassId} {kv : Nat → Value} {c0 s0 : Nat}
variable {pc : Nat} {L : List AV} {dl : DL} {st : List AV} {h : AH} {ls : Array Slot} {vs : List Value} {H : Heap} {locs : List Loc} {cells slots : Nat} {q : Nat → Nat} {ws : va_W} {cf : Cfg}
theorem KC.word (hk : KC kv sc A s s.heap) {w : Cond} (h : lw_tbl.contains w = true) (ho : okv w = true) (args : Array Value) : w.before args s = true := okw_use hk.2.2.2.1 (ctn h) ho args
theorem w_getstatic {a i9 j9 w9 : Nat} {v : AV} (hx : FX p s m meth c R mi) (hk : KC kv sc A s s.heap) (hd : decode (mB mi) pc = .ok (.getstatic a, 3)) (he : rs (mCn mi) a = some (1, i9, j9, w9)) (hg : SVl[i9]? = some v) (hr : HR A D dA q kv s H locs h.1 ws) (hl : LR q kv h.1.length ls (mL mi) L dl) (hv : VL q kv h.1.length st vs) (hc : cells + c0 = costC h) (hs : slots + s0 = costS h) (kk : KK p l e R s m args below meth c Q mi A D dA kv c0 s0 h.1.length q (pc + 3, L, dl, v :: st, h)) : W p l e R s m args below meth c H locs cells slots Q (F0 m pc ls vs) := by
  obtain ⟨x1, x2, x3, x4, x5, x6, x7, x8, x9, x10, es, x11⟩ := hx
  have hent := ent_use ent_ok1 x11 he
  unfold eOK at hent
  simp only at hent
  split at hent
  · rename_i f hf
    simp only [Bool.and_eq_true, decide_eq_true_eq] at hent
    obtain ⟨hlk, hne⟩ := hent
    have key : ∀ z : Value, va_Z f.1 f.2.1 f.2.2 z A s s.heap → Vr q kv h.1.length v z → W p l e R s m args below meth c H locs cells slots Q (F0 m pc ls vs) := by
      intro z hZ hvz
      rcases lnkF_sp hlk with e9 | ⟨host, e9⟩
      · exact va_gets x1 x2 hZ hr.2.2.2.1 x4 (okw_use hk.2.2.2.1 (tb2_of e9) rfl args) (fun _ z => z) hd (kk0 kk hr hc hs hl ⟨hvz, hv⟩)
      · exact va_getsN x1 x2 hZ hr.2.2.2.1 x4 (okw_use hk.2.2.2.1 (tb2_of e9) rfl args) (fun _ z => z) hd (kk0 kk hr hc hs hl ⟨hvz, hv⟩)
    rcases hk.2.2.1.1 i9 f v hf hg hne with ⟨hu, hZ⟩ | ⟨hu, hZ⟩
    · have hsv := List.all_eq_true.mp sv_ok v (List.mem_of_getElem? hg)
      refine key _ hZ ?_
      rcases v with i | p | k | u | i | i | i | u <;> first | rfl | (simp [svK] at hsv; done) | (simp [aUnk] at hu; done)
    · rcases v with i | p | k | u | i | i | i | u <;> first | (simp [aUnk] at hu; done) | skip
      rcases hZ with hZ | ⟨t, hZ⟩
      · exact key _ hZ (Or.inl rfl)
      · exact key _ hZ (Or.inr ⟨t, rfl⟩)
  · cases hent
theorem w_ldc {a i9 j9 w9 : Nat} {x : Int32} (hx : FX p s m meth c R mi) (hk : KC kv sc A s s.heap) (he : rs (mCn mi) a = some (5, i9, j9, w9)) (hg : SVl[i9]? = some (aI x)) : (Jvm.Cond.constant (mOwn mi) a x).before args s = true := by
  obtain ⟨x1, x2, x3, x4, x5, x6, x7, x8, x9, x10, es, x11⟩ := hx
  have hent := ent_use ent_ok5 x11 he
  unfold eOK at hent
  simp only [hg] at hent
  split at hent
  · rename_i o i' v x' hw hx'
    simp only [Bool.and_eq_true, beq_iff_eq, decide_eq_true_eq] at hent
    obtain ⟨⟨rfl, rfl⟩, rfl⟩ := hent
    have hxx : v = x := by
      have := Option.some.inj hx'
      exact (Sum.inl.inj this).symm
    subst hxx
    exact okw_use hk.2.2.2.1 (tb2_of hw) rfl args
  · cases hent
theorem kk_push {pc' : Nat} {L' : List AV} {dl' : DL} {r : List AV} {ys : List Value} {o : AO} {a : Nat} {e9 : va_E} {H1 : Heap} {locs1 : List Loc} (kk : KK p l e R s m args below meth c Q mi A D dA kv c0 s0 h.1.length q (pc', L', dl', aD h.1.length :: r, hpush h o))
    (hP : va_P D vwCl (ws ++ [(a, e9)]) H1) (hK : va_K D vwCl (tysOf dA) s) (hD : va_D A (ws ++ [(a, e9)])) (hS : va_S A s.heap H1 locs1) (hA : ∀ a, s.heap.size ≤ a → A a) (hW : WR q kv dA h.1 ws) (he : Er q kv dA h.1.length o e9) (hl : LR q kv h.1.length ls (mL mi) L' dl') (hv : VL q kv h.1.length r ys) (hc : cells + c0 = costC h) (hs : slots + s0 = costS h) :
    W p l e R s m args below meth c H1 locs1 (cells + 1) (slots + osize o) Q (F0 m pc' ls (.ref a :: ys)) := by
  have hq : ∀ k, k < h.1.length → va_up q h.1.length a k = q k := fun k hk => by unfold va_up; rw [if_neg (by omega)]
  have hlen : (hpush h o).1.length = h.1.length + 1 := by simp [hpush]
  refine kk (va_up q h.1.length a) (ws ++ [(a, e9)]) ls (.ref a :: ys) H1 locs1 (cells + 1) (slots + osize o) hq ⟨hP, hK, hD, hS, hA, ?_⟩ ?_ ?_ ?_ ?_
  · exact hW.push a he
  · show LR _ kv (hpush h o).1.length ls (mL mi) L' dl'
    exact hl.mono (by omega) hq
  · show VL _ kv (hpush h o).1.length (aD h.1.length :: r) (.ref a :: ys)
    exact ⟨⟨by omega, by simp [va_up]⟩, hv.mono (by omega) hq⟩
  · show cells + 1 + c0 = (h.1 ++ [o]).length + h.2
    simp only [List.length_append, List.length_singleton]
    unfold costC at hc
    omega
  · show slots + osize o + s0 = ((h.1 ++ [o]).map osize).sum + 6 * h.2
    simp only [List.map_append, List.sum_append, List.map_cons, List.map_nil, List.sum_cons, List.sum_nil]
    unfold costS at hs
    omega
theorem w_new {a c9 n9 w9 : Nat} {ts : List Nat} (hx : FX p s m meth c R mi) (hk : KC kv sc A s s.heap) (hd : decode (mB mi) pc = .ok (.new a, 3)) (he : rs (mCn mi) a = some (3, c9, n9, w9)) (hg : FTl[c9]? = some ts) (hroom : costC (hpush h (oO c9 (ts.map dfl))) ≤ c0 + R.cells ∧ costS (hpush h (oO c9 (ts.map dfl))) ≤ s0 + R.slots) (hr : HR A D dA q kv s H locs h.1 ws) (hl : LR q kv h.1.length ls (mL mi) L dl) (hv : VL q kv h.1.length st vs) (hc : cells + c0 = costC h) (hs : slots + s0 = costS h) (kk : KK p l e R s m args below meth c Q mi A D dA kv c0 s0 h.1.length q (pc + 3, L, dl, aD h.1.length :: st, hpush h (oO c9 (ts.map dfl)))) : W p l e R s m args below meth c H locs cells slots Q (F0 m pc ls vs) := by
  obtain ⟨x1, x2, x3, x4, x5, x6, x7, x8, x9, x10, es, x11⟩ := hx
  have hent := ent_use ent_ok3 x11 he
  have hmade : cMade c9 := by
    unfold rs at he
    rw [x11] at he
    have hm := lookup_mem (show es.lookup a = some (3, c9, n9, w9) from he)
    have h1 := List.all_eq_true.mp (List.all_eq_true.mp made_ok (mOwn mi, es) (List.mem_of_getElem? x11)) _ hm
    simp only [Bool.or_eq_true] at h1
    rcases h1 with (h1 | h1) | h1
    · simp at h1
    · exact Or.inl (Nat.eq_of_beq_eq_true h1)
    · exact Or.inr (Nat.le_of_ble_eq_true h1)
  unfold eOK at hent
  simp only at hent
  split at hent
  · rename_i o i' C r9 hw hc9
    simp only [Bool.and_eq_true, beq_iff_eq, decide_eq_true_eq] at hent
    obtain ⟨⟨⟨rfl, rfl⟩, rfl⟩, rfl⟩ := hent
    have hin : lw_tbl.contains (.instantiable r9.1 r9.2.2) = true ∧ lw_tbl.contains (.initialized r9.1) = true := by
      have key : (lw_tbl.contains (.instantiable r9.1 r9.2.2) && lw_tbl.contains (.initialized r9.1)) = true := by
        rcases hmade with rfl | hm
        · exact List.all_eq_true.mp inst_ok1 r9 (List.mem_of_getElem? (i := 0) (by simpa using hc9))
        · refine List.all_eq_true.mp inst_ok r9 (List.mem_of_getElem? (i := c9 - 4) ?_)
          rw [List.getElem?_drop]
          rw [show 4 + (c9 - 4) = c9 by omega]
          exact hc9
      simpa [Bool.and_eq_true] using key
    have htl : ts.length = r9.2.2 := by
      have hz : (vwCl.zip FTl)[c9]? = some (r9, ts) := by rw [List.getElem?_zip_eq_some]; exact ⟨hc9, hg⟩
      have h3 := List.all_eq_true.mp ft_ok (r9, ts) (List.mem_of_getElem? hz)
      simp only [Bool.and_eq_true] at h3
      exact Nat.eq_of_beq_eq_true h3.1
    obtain ⟨hP, hK, hD, hS, hA, hW⟩ := hr
    have hosz : osize (oO c9 (ts.map dfl)) = r9.2.2 := by simp [osize, htl]
    obtain ⟨hr1, hr2⟩ := hroom
    have hr1' : (h.1 ++ [oO c9 (ts.map dfl)]).length + h.2 ≤ c0 + R.cells := hr1
    have hr2' : ((h.1 ++ [oO c9 (ts.map dfl)]).map osize).sum + 6 * h.2 ≤ s0 + R.slots := hr2
    simp only [List.length_append, List.length_singleton] at hr1'
    simp only [List.map_append, List.sum_append, List.map_cons, List.map_nil, List.sum_cons, List.sum_nil, hosz] at hr2'
    unfold costC at hc
    unfold costS at hs
    refine va_new (ci := c9) (fs := (List.range r9.2.2).map (fun j => defaultValue (tyK r9 j))) (C := r9.1) (T := r9.2.1) (N := r9.2.2) x1 x2 (hk.hts args) (ws_in hmade hc9) (tyK r9) (tyK_ok hc9) x4 (okw_use hk.2.2.2.1 (tb2_of hw) rfl args) (hk.word hin.1 rfl args) (hk.word hin.2 rfl args) hK hP hD hS hA hc9 (fun j hj => ?_) (by omega) (by omega) hd (fun a9 H1 g1 g2 g3 => ?_)
    · unfold vp_V
      rw [List.getD_eq_getElem?_getD, List.getElem?_map, List.getElem?_range hj]
      rfl
    · have hvl : VL q kv h.1.length (ts.map dfl) ((List.range r9.2.2).map (fun j => defaultValue (tyK r9 j))) := by
        refine VL.of (by simp [htl]) (fun k v x hk1 hk2 => ?_)
        rw [List.getElem?_map] at hk1 hk2
        obtain ⟨t, ht, rfl⟩ := Option.map_eq_some_iff.mp hk1
        obtain ⟨j, hj, rfl⟩ := Option.map_eq_some_iff.mp hk2
        have hkj : j = k := by
          have h9 := (List.getElem?_eq_some_iff.mp hj)
          obtain ⟨h10, h11⟩ := h9
          simp at h11
          exact h11.symm
        subst hkj
        exact dfl_ok (ftK hc9 hg ht).2.2
      have key := kk_push (o := oO c9 (ts.map dfl)) kk g1 hK g2 g3 hA hW ⟨_, rfl, hvl, ⟨r9, hc9, by simp [htl]⟩, hmade⟩ hl hv hc hs
      rw [hosz] at key
      exact key
  · cases hent
theorem w_newarray {a : ArrayType} {n : Int32} {r : List AV} {o : AO} (hx : FX p s m meth c R mi) (hk : KC kv sc A s s.heap) (hd : decode (mB mi) pc = .ok (.newarray a, 2)) (hn : ¬ (n < 0 ∨ 67108864 < n.toNatClampNeg)) (ho : newT a n.toNatClampNeg = some o) (hroom : costC (hpush h o) ≤ c0 + R.cells ∧ costS (hpush h o) ≤ s0 + R.slots) (hr : HR A D dA q kv s H locs h.1 ws) (hl : LR q kv h.1.length ls (mL mi) L dl) (hv : VL q kv h.1.length (aI n :: r) vs) (hc : cells + c0 = costC h) (hs : slots + s0 = costS h) (kk : KK p l e R s m args below meth c Q mi A D dA kv c0 s0 h.1.length q (pc + 2, L, dl, aD h.1.length :: r, hpush h o)) : W p l e R s m args below meth c H locs cells slots Q (F0 m pc ls vs) := by
  obtain ⟨x1, x2, x3, x4, x5, x6, x7, x8, x9, x10, es, x11⟩ := hx
  obtain ⟨ys, rfl, hv2⟩ := hv.I
  obtain ⟨hP, hK, hD, hS, hA, hW⟩ := hr
  obtain ⟨hr1, hr2⟩ := hroom
  have hr1' : (h.1 ++ [o]).length + h.2 ≤ c0 + R.cells := hr1
  have hr2' : ((h.1 ++ [o]).map osize).sum + 6 * h.2 ≤ s0 + R.slots := hr2
  simp only [List.length_append, List.length_singleton] at hr1'
  simp only [List.map_append, List.sum_append, List.map_cons, List.map_nil, List.sum_cons, List.sum_nil] at hr2'
  have hc' := hc
  have hs' := hs
  unfold costC at hc'
  unfold costS at hs'
  have hn0 : ¬ n < 0 := fun z => hn (Or.inl z)
  have hn1 : n.toNatClampNeg ≤ 67108864 := Nat.not_lt.mp (fun z => hn (Or.inr z))
  have harr : ∀ t ∈ [FieldType.int, .char, .byte, .boolean, .long, .double], (Cond.arrayClass t).before args s = true := fun t ht => hk.word (List.all_eq_true.mp arr_ok t ht) rfl args
  have same : ∀ (t : Nat) (ty : FieldType) (cA : ClassId), (tysOf dA)[t]? = some (dA t, ty) → va_K D vwCl (tysOf dA ++ [(cA, ty)]) s → (∀ C, ty ≠ .object C) → cA = dA t := by
    intro t ty cA ht hK2 hno
    have h1 := (hK.2 t _ ht).2
    have h2 := (hK2.2 7 (cA, ty) rfl).2
    cases ty with
    | object C => exact absurd rfl (hno C)
    | _ => exact Option.some.inj (h2.symm.trans h1)
  cases a <;> first | (simp [newT] at ho; done) | skip
  all_goals (simp only [newT, Option.some.injEq] at ho; subst ho; simp only [osize] at hr2')
  · refine va_newa (atype := .boolean) (a0 := (n.toNatClampNeg, .inl (fun _ => 0))) x1 x2 (harr _ (by simp [newarray.typeOf])) rfl hK hP hD hS hA (fun cA => rfl) hn0 rfl (by simp only [newarray.typeOf, componentBytes]; omega) (by omega) (by omega) hd (fun a9 cA H1 gK g1 g2 g3 => ?_)
    have := same 3 .boolean cA rfl gK (fun _ => by simp)
    subst this
    exact kk_push kk g1 hK g2 g3 hA hW ⟨by decide, hn1, rfl⟩ hl hv2 hc hs
  · refine va_newa (atype := .char) (a0 := (n.toNatClampNeg, .inl (fun _ => 0))) x1 x2 (harr _ (by simp [newarray.typeOf])) rfl hK hP hD hS hA (fun cA => rfl) hn0 rfl (by simp only [newarray.typeOf, componentBytes]; omega) (by omega) (by omega) hd (fun a9 cA H1 gK g1 g2 g3 => ?_)
    have := same 1 .char cA rfl gK (fun _ => by simp)
    subst this
    exact kk_push kk g1 hK g2 g3 hA hW ⟨by decide, hn1, rfl⟩ hl hv2 hc hs
  · refine va_newa (atype := .double) (a0 := (n.toNatClampNeg, .inr (.inr (.inr (.inl (fun _ => 0)))))) x1 x2 (harr _ (by simp [newarray.typeOf])) rfl hK hP hD hS hA (fun cA => rfl) hn0 rfl (by simp only [newarray.typeOf, componentBytes]; omega) (by omega) (by omega) hd (fun a9 cA H1 gK g1 g2 g3 => ?_)
    have := same 5 .double cA rfl gK (fun _ => by simp)
    subst this
    exact kk_push kk g1 hK g2 g3 hA hW ⟨hn1, rfl⟩ hl hv2 hc hs
  · refine va_newa (atype := .byte) (a0 := (n.toNatClampNeg, .inl (fun _ => 0))) x1 x2 (harr _ (by simp [newarray.typeOf])) rfl hK hP hD hS hA (fun cA => rfl) hn0 rfl (by simp only [newarray.typeOf, componentBytes]; omega) (by omega) (by omega) hd (fun a9 cA H1 gK g1 g2 g3 => ?_)
    have := same 2 .byte cA rfl gK (fun _ => by simp)
    subst this
    exact kk_push kk g1 hK g2 g3 hA hW ⟨by decide, hn1, rfl⟩ hl hv2 hc hs
  · refine va_newa (atype := .int) (a0 := (n.toNatClampNeg, .inl (fun _ => 0))) x1 x2 (harr _ (by simp [newarray.typeOf])) rfl hK hP hD hS hA (fun cA => rfl) hn0 rfl (by simp only [newarray.typeOf, componentBytes]; omega) (by omega) (by omega) hd (fun a9 cA H1 gK g1 g2 g3 => ?_)
    have := same 0 .int cA rfl gK (fun _ => by simp)
    subst this
    exact kk_push kk g1 hK g2 g3 hA hW ⟨by decide, hn1, rfl⟩ hl hv2 hc hs
  · refine va_newa (atype := .long) (a0 := (n.toNatClampNeg, .inr (.inl (fun _ => 0)))) x1 x2 (harr _ (by simp [newarray.typeOf])) rfl hK hP hD hS hA (fun cA => rfl) hn0 rfl (by simp only [newarray.typeOf, componentBytes]; omega) (by omega) (by omega) hd (fun a9 cA H1 gK g1 g2 g3 => ?_)
    have := same 4 .long cA rfl gK (fun _ => by simp)
    subst this
    exact kk_push kk g1 hK g2 g3 hA hW ⟨hn1, rfl⟩ hl hv2 hc hs
end
