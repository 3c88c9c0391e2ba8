/-! SOUNDNESS 6: rows, statics, new objects -/
section
variable {p : Program} {l : Launch} {e : Env} {R : Room} {s : State} {m : MethodId} {args : Array Value} {below : List Frame} {meth : Method} {c : Code} {Q : State → Prop}
variable {mi : MI} {sc : SC} {A : Nat → Prop} {D : va_G} {dA : Nat → ClassId} {kv : Nat → Value} {c0 s0 : Nat}
variable {pc : Nat} {L : List AV} {dl : DL} {st : List AV} {h : AH} {ls : Array Slot} {vs : List Value} {H : Heap} {locs : List Loc} {cells slots : Nat} {q : Nat → Nat} {ws : va_W} {cf : Cfg}
theorem cost_set {h : AH} {pp : Nat} {o o' : AO} (ho : hget h pp = some o) (hsz : osize o' = osize o) : costC (hset h pp o') = costC h ∧ costS (hset h pp o') = costS h := by
  refine ⟨by simp [costC, hset], ?_⟩
  show ((h.1.set pp o').map osize).sum + 6 * h.2 = (h.1.map osize).sum + 6 * h.2
  have hpl : pp < h.1.length := (List.getElem?_eq_some_iff.mp ho).1
  have : (h.1.set pp o').map osize = h.1.map osize := by
    rw [List.map_set]
    refine List.ext_getElem? fun j => ?_
    by_cases hj : pp = j
    · subst hj
      rw [List.getElem?_set_self (by simpa using hpl), List.getElem?_map, show h.1[pp]? = some o from ho]
      simp [hsz]
    · rw [List.getElem?_set_ne hj]
  rw [this]
theorem kk_set {pc' : Nat} {L' : List AV} {dl' : DL} {r : List AV} {ys : List Value} {pp : Nat} {o o' : AO} {H1 : Heap} {locs1 : List Loc} {ws1 : va_W} (kk : KK p l e R s m args below meth c Q mi A D dA kv c0 s0 h.1.length q (pc', L', dl', r, hset h pp o')) (ho : hget h pp = some o) (hsz : osize o' = osize o)
    (hr : HR A D dA q kv s H1 locs1 (h.1.set pp o') ws1) (hl : LR q kv h.1.length ls (mL mi) L' dl') (hv : VL q kv h.1.length r ys) (hc : cells + c0 = costC h) (hs : slots + s0 = costS h) : W p l e R s m args below meth c H1 locs1 cells slots Q (F0 m pc' ls ys) := by
  obtain ⟨e1, e2⟩ := cost_set ho hsz
  refine kk q ws1 ls ys H1 locs1 cells slots (fun _ _ => rfl) hr ?_ ?_ (by rw [hc]; exact e1.symm) (by rw [hs]; exact e2.symm)
  · show LR q kv (h.1.set pp _).length ls (mL mi) L' dl'
    rw [List.length_set]; exact hl
  · show VL q kv (h.1.set pp _).length r ys
    rw [List.length_set]; exact hv
theorem w_ldI {T : Nat → Bool} {ins : Instr} {v : AV} {i x : Int32} {r : List AV} (hk : KC kv sc A s s.heap) (hg : ldI sc h T v i = some x)
    (hr : HR A D dA q kv s H locs h.1 ws) (hl : LR q kv h.1.length ls (mL mi) L dl) (hv : VL q kv h.1.length (aI i :: v :: r) vs) (hc : cells + c0 = costC h) (hs : slots + s0 = costS h) (kk : KK p l e R s m args below meth c Q mi A D dA kv c0 s0 h.1.length q (pc + 1, L, dl, aI x :: r, h))
    (rowD : ∀ (t n : Nat) (f : Nat → Int32) (pp : Nat) (ys : List Value), T t = true → t < 4 → ws[pp]? = some (q pp, .inl (dA t, n, .inl f)) → vp_in i n → W p l e R s m args below meth c H locs cells slots Q (F0 m (pc + 1) ls (.int (f i.toNatClampNeg) :: ys)) → W p l e R s m args below meth c H locs cells slots Q (F0 m pc ls (.int i :: .ref (q pp) :: ys)))
    (rowC : ∀ (t n a : Nat) (f : Nat → Int32) (ys : List Value), T t = true → t < 4 → va_T (tyT t) a n (fun j => .int (f j)) A s s.heap → vp_in i n → W p l e R s m args below meth c H locs cells slots Q (F0 m (pc + 1) ls (.int (f i.toNatClampNeg) :: ys)) → W p l e R s m args below meth c H locs cells slots Q (F0 m pc ls (.int i :: .ref a :: ys))) : W p l e R s m args below meth c H locs cells slots Q (F0 m pc ls vs) := by
  obtain ⟨xs, rfl, hv1⟩ := hv.I
  obtain ⟨y, ys, rfl, hv2, hv3⟩ := hv1.cons
  unfold ldI at hg
  rcases v with i9 | pp | kc | u | i9 | i9 | i9 | u
  all_goals first | (simp [oget] at hg; done) | skip
  · obtain ⟨hp, rfl⟩ := hv2
    simp only [oget] at hg
    split at hg
    · rename_i t n f ho
      split at hg
      · rename_i hcc
        cases hg
        obtain ⟨e9, hw, ht, -, rfl⟩ := hr.obj ho
        exact rowD t n f pp ys hcc.1 ht hw (inb_sp hcc.2) (kk0 kk hr hc hs hl ⟨rfl, hv3⟩)
      · cases hg
    · cases hg
  · have hy : y = kv kc := hv2
    simp only [oget] at hg
    split at hg
    · rename_i t n f ho
      split at hg
      · rename_i hcc
        cases hg
        obtain ⟨ht, a9, ha9, hT⟩ := hk.2.2.1.2.2.1 kc t n f ho
        rw [hy, ha9]
        exact rowC t n a9 f ys hcc.1 ht hT (inb_sp hcc.2) (kk0 kk hr hc hs hl ⟨rfl, hv3⟩)
      · cases hg
    · cases hg
theorem w_stI {T : Nat → Bool} {pp : Nat} {i x : Int32} {r : List AV} {h' : AH} (hg : stI h T pp i x = some h')
    (hr : HR A D dA q kv s H locs h.1 ws) (hl : LR q kv h.1.length ls (mL mi) L dl) (hv : VL q kv h.1.length (aI x :: aI i :: aD pp :: r) vs) (hc : cells + c0 = costC h) (hs : slots + s0 = costS h) (kk : KK p l e R s m args below meth c Q mi A D dA kv c0 s0 h.1.length q (pc + 1, L, dl, r, h'))
    (row : ∀ (t n : Nat) (f : Nat → Int32) (ys : List Value), T t = true → t < 4 → ws[pp]? = some (q pp, .inl (dA t, n, .inl f)) → vp_in i n → (∀ (H1 : Heap) (locs1 : List Loc), va_P D vwCl (ws.set pp (q pp, .inl (dA t, n, .inl (upd f i.toNatClampNeg (narK t x))))) H1 → va_D A (ws.set pp (q pp, .inl (dA t, n, .inl (upd f i.toNatClampNeg (narK t x))))) → va_S A s.heap H1 locs1 → W p l e R s m args below meth c H1 locs1 cells slots Q (F0 m (pc + 1) ls ys)) → W p l e R s m args below meth c H locs cells slots Q (F0 m pc ls (.int x :: .int i :: .ref (q pp) :: ys))) : W p l e R s m args below meth c H locs cells slots Q (F0 m pc ls vs) := by
  obtain ⟨xs, rfl, hv1⟩ := hv.I
  obtain ⟨xs, rfl, hv2⟩ := hv1.I
  obtain ⟨ys, rfl, hpp, hv3⟩ := hv2.D
  unfold stI at hg
  split at hg
  · rename_i t n f ho
    split at hg
    · rename_i hcc
      cases hg
      obtain ⟨e9, hw, ht, hn, rfl⟩ := hr.obj ho
      refine row t n f ys hcc.1 ht hw (inb_sp hcc.2) (fun H1 locs1 g1 g2 g3 => ?_)
      obtain ⟨hP, hK, hD, hS, hA, hW⟩ := hr
      exact kk_set kk ho rfl ⟨g1, hK, g2, g3, hA, hW.set hpp ⟨ht, hn, rfl⟩⟩ hl hv3 hc hs
    · cases hg
  · cases hg
theorem tys_get (dA : Nat → ClassId) {t : Nat} (h : t < 4) : (tysOf dA)[t]? = some (dA t, tyT t) := by
  match t, h with
  | 0, _ => rfl
  | 1, _ => rfl
  | 2, _ => rfl
  | 3, _ => rfl
theorem w_iaload {v : AV} {i x : Int32} {r : List AV} (hx : FX p s m meth c R mi) (hk : KC kv sc A s s.heap) (hd : decode (mB mi) pc = .ok (.iaload, 1)) (hg : ldI sc h (fun t => t == 0) v i = some x) (hr : HR A D dA q kv s H locs h.1 ws) (hl : LR q kv h.1.length ls (mL mi) L dl) (hv : VL q kv h.1.length (aI i :: v :: r) vs) (hc : cells + c0 = costC h) (hs : slots + s0 = costS h) (kk : KK p l e R s m args below meth c Q mi A D dA kv c0 s0 h.1.length q (pc + 1, L, dl, aI x :: r, h)) : W p l e R s m args below meth c H locs cells slots Q (F0 m pc ls vs) := by
  refine w_ldI (ins := .iaload) hk hg hr hl hv hc hs kk (fun t n f pp ys hT ht hw hin k => ?_) (fun t n a f ys hT ht hZ hin k => ?_)
  · have ht0 : t = 0 := beq_iff_eq.mp hT
    subst ht0
    exact va_iald hx.1 hx.2.1 hr.2.1 hr.1 pp 0 hw (tys_get dA ht) hin hd k
  · have ht0 : t = 0 := beq_iff_eq.mp hT
    subst ht0
    exact va_ti hx.1 hx.2.1 hZ hr.2.2.2.1 hin rfl hd k
theorem w_caload {v : AV} {i x : Int32} {r : List AV} (hx : FX p s m meth c R mi) (hk : KC kv sc A s s.heap) (hd : decode (mB mi) pc = .ok (.caload, 1)) (hg : ldI sc h (fun t => t == 1) v i = some x) (hr : HR A D dA q kv s H locs h.1 ws) (hl : LR q kv h.1.length ls (mL mi) L dl) (hv : VL q kv h.1.length (aI i :: v :: r) vs) (hc : cells + c0 = costC h) (hs : slots + s0 = costS h) (kk : KK p l e R s m args below meth c Q mi A D dA kv c0 s0 h.1.length q (pc + 1, L, dl, aI x :: r, h)) : W p l e R s m args below meth c H locs cells slots Q (F0 m pc ls vs) := by
  refine w_ldI (ins := .caload) hk hg hr hl hv hc hs kk (fun t n f pp ys hT ht hw hin k => ?_) (fun t n a f ys hT ht hZ hin k => ?_)
  · have ht0 : t = 1 := beq_iff_eq.mp hT
    subst ht0
    exact va_cald hx.1 hx.2.1 hr.2.1 hr.1 pp 1 hw (tys_get dA ht) hin hd k
  · have ht0 : t = 1 := beq_iff_eq.mp hT
    subst ht0
    exact va_tc hx.1 hx.2.1 hZ hr.2.2.2.1 hin rfl hd k
theorem w_baload {v : AV} {i x : Int32} {r : List AV} (hx : FX p s m meth c R mi) (hk : KC kv sc A s s.heap) (hd : decode (mB mi) pc = .ok (.baload, 1)) (hg : ldI sc h (fun t => t == 2 || t == 3) v i = some x) (hr : HR A D dA q kv s H locs h.1 ws) (hl : LR q kv h.1.length ls (mL mi) L dl) (hv : VL q kv h.1.length (aI i :: v :: r) vs) (hc : cells + c0 = costC h) (hs : slots + s0 = costS h) (kk : KK p l e R s m args below meth c Q mi A D dA kv c0 s0 h.1.length q (pc + 1, L, dl, aI x :: r, h)) : W p l e R s m args below meth c H locs cells slots Q (F0 m pc ls vs) := by
  refine w_ldI (ins := .baload) hk hg hr hl hv hc hs kk (fun t n f pp ys hT ht hw hin k => ?_) (fun t n a f ys hT ht hZ hin k => ?_)
  · rcases Bool.or_eq_true_iff.mp hT with h0 | h0
    · have ht0 : t = 2 := beq_iff_eq.mp h0
      subst ht0
      exact va_bald hx.1 hx.2.1 hr.2.1 hr.1 pp 2 hw (tys_get dA ht) hin hd k
    · have ht0 : t = 3 := beq_iff_eq.mp h0
      subst ht0
      exact va_zald hx.1 hx.2.1 hr.2.1 hr.1 pp 3 hw (tys_get dA ht) hin hd k
  · rcases Bool.or_eq_true_iff.mp hT with h0 | h0
    · have ht0 : t = 2 := beq_iff_eq.mp h0
      subst ht0
      exact va_tb hx.1 hx.2.1 hZ hr.2.2.2.1 hin rfl hd k
    · have ht0 : t = 3 := beq_iff_eq.mp h0
      subst ht0
      exact va_tz hx.1 hx.2.1 hZ hr.2.2.2.1 hin rfl hd k
theorem w_iastore {pp : Nat} {i x : Int32} {r : List AV} {h' : AH} (hx : FX p s m meth c R mi) (hd : decode (mB mi) pc = .ok (.iastore, 1)) (hg : stI h (fun t => t == 0) pp i x = some h') (hr : HR A D dA q kv s H locs h.1 ws) (hl : LR q kv h.1.length ls (mL mi) L dl) (hv : VL q kv h.1.length (aI x :: aI i :: aD pp :: r) vs) (hc : cells + c0 = costC h) (hs : slots + s0 = costS h) (kk : KK p l e R s m args below meth c Q mi A D dA kv c0 s0 h.1.length q (pc + 1, L, dl, r, h')) : W p l e R s m args below meth c H locs cells slots Q (F0 m pc ls vs) := by
  refine w_stI hg hr hl hv hc hs kk (fun t n f ys hT ht hw hin k => ?_)
  have ht0 : t = 0 := beq_iff_eq.mp hT
  subst ht0
  exact va_iast hx.1 hx.2.1 hr.2.1 hr.1 hr.2.2.1 hr.2.2.2.1 pp 0 hw (tys_get dA ht) hin hd k
theorem w_castore {pp : Nat} {i x : Int32} {r : List AV} {h' : AH} (hx : FX p s m meth c R mi) (hd : decode (mB mi) pc = .ok (.castore, 1)) (hg : stI h (fun t => t == 1) pp i x = some h') (hr : HR A D dA q kv s H locs h.1 ws) (hl : LR q kv h.1.length ls (mL mi) L dl) (hv : VL q kv h.1.length (aI x :: aI i :: aD pp :: r) vs) (hc : cells + c0 = costC h) (hs : slots + s0 = costS h) (kk : KK p l e R s m args below meth c Q mi A D dA kv c0 s0 h.1.length q (pc + 1, L, dl, r, h')) : W p l e R s m args below meth c H locs cells slots Q (F0 m pc ls vs) := by
  refine w_stI hg hr hl hv hc hs kk (fun t n f ys hT ht hw hin k => ?_)
  have ht0 : t = 1 := beq_iff_eq.mp hT
  subst ht0
  exact va_cast hx.1 hx.2.1 hr.2.1 hr.1 hr.2.2.1 hr.2.2.2.1 pp 1 hw (tys_get dA ht) hin hd k
theorem w_bastore {pp : Nat} {i x : Int32} {r : List AV} {h' : AH} (hx : FX p s m meth c R mi) (hd : decode (mB mi) pc = .ok (.bastore, 1)) (hg : stI h (fun t => t == 2 || t == 3) pp i x = some h') (hr : HR A D dA q kv s H locs h.1 ws) (hl : LR q kv h.1.length ls (mL mi) L dl) (hv : VL q kv h.1.length (aI x :: aI i :: aD pp :: r) vs) (hc : cells + c0 = costC h) (hs : slots + s0 = costS h) (kk : KK p l e R s m args below meth c Q mi A D dA kv c0 s0 h.1.length q (pc + 1, L, dl, r, h')) : W p l e R s m args below meth c H locs cells slots Q (F0 m pc ls vs) := by
  refine w_stI hg hr hl hv hc hs kk (fun t n f ys hT ht hw hin k => ?_)
  rcases Bool.or_eq_true_iff.mp hT with h0 | h0
  · have ht0 : t = 2 := beq_iff_eq.mp h0
    subst ht0
    exact va_bast hx.1 hx.2.1 hr.2.1 hr.1 hr.2.2.1 hr.2.2.2.1 pp 2 hw (tys_get dA ht) hin hd k
  · have ht0 : t = 3 := beq_iff_eq.mp h0
    subst ht0
    exact va_zast hx.1 hx.2.1 hr.2.1 hr.1 hr.2.2.1 hr.2.2.2.1 pp 3 hw (tys_get dA ht) hin hd k
theorem w_laload {pp n : Nat} {i : Int32} {f : Nat → Int64} {r : List AV} (hx : FX p s m meth c R mi) (hd : decode (mB mi) pc = .ok (.laload, 1)) (ho : hget h pp = some (oL n f)) (hin : inb i n = true) (hr : HR A D dA q kv s H locs h.1 ws) (hl : LR q kv h.1.length ls (mL mi) L dl) (hv : VL q kv h.1.length (aI i :: aD pp :: r) vs) (hc : cells + c0 = costC h) (hs : slots + s0 = costS h) (kk : KK p l e R s m args below meth c Q mi A D dA kv c0 s0 h.1.length q (pc + 1, L, dl, aL (f i.toNatClampNeg) :: r, h)) : W p l e R s m args below meth c H locs cells slots Q (F0 m pc ls vs) := by
  obtain ⟨xs, rfl, hv1⟩ := hv.I
  obtain ⟨ys, rfl, hpp, hv3⟩ := hv1.D
  obtain ⟨e9, hw, -, rfl⟩ := hr.obj ho
  exact va_lald hx.1 hx.2.1 hr.2.1 hr.1 pp 4 hw rfl (inb_sp hin) hd (kk0 kk hr hc hs hl ⟨rfl, hv3⟩)
theorem w_daload {pp n : Nat} {i : Int32} {f : Nat → UInt64} {r : List AV} (hx : FX p s m meth c R mi) (hd : decode (mB mi) pc = .ok (.daload, 1)) (ho : hget h pp = some (oE n f)) (hin : inb i n = true) (hr : HR A D dA q kv s H locs h.1 ws) (hl : LR q kv h.1.length ls (mL mi) L dl) (hv : VL q kv h.1.length (aI i :: aD pp :: r) vs) (hc : cells + c0 = costC h) (hs : slots + s0 = costS h) (kk : KK p l e R s m args below meth c Q mi A D dA kv c0 s0 h.1.length q (pc + 1, L, dl, aE (f i.toNatClampNeg) :: r, h)) : W p l e R s m args below meth c H locs cells slots Q (F0 m pc ls vs) := by
  obtain ⟨xs, rfl, hv1⟩ := hv.I
  obtain ⟨ys, rfl, hpp, hv3⟩ := hv1.D
  obtain ⟨e9, hw, -, rfl⟩ := hr.obj ho
  exact va_dald hx.1 hx.2.1 hr.2.1 hr.1 pp 5 hw rfl (inb_sp hin) hd (kk0 kk hr hc hs hl ⟨rfl, hv3⟩)
theorem w_lastore {pp n : Nat} {i : Int32} {x : Int64} {f : Nat → Int64} {r : List AV} (hx : FX p s m meth c R mi) (hd : decode (mB mi) pc = .ok (.lastore, 1)) (ho : hget h pp = some (oL n f)) (hin : inb i n = true) (hr : HR A D dA q kv s H locs h.1 ws) (hl : LR q kv h.1.length ls (mL mi) L dl) (hv : VL q kv h.1.length (aL x :: aI i :: aD pp :: r) vs) (hc : cells + c0 = costC h) (hs : slots + s0 = costS h) (kk : KK p l e R s m args below meth c Q mi A D dA kv c0 s0 h.1.length q (pc + 1, L, dl, r, hset h pp (oL n (vp_updL f i.toNatClampNeg x)))) : W p l e R s m args below meth c H locs cells slots Q (F0 m pc ls vs) := by
  obtain ⟨xs, rfl, hv0⟩ := hv.Lg
  obtain ⟨xs, rfl, hv1⟩ := hv0.I
  obtain ⟨ys, rfl, hpp, hv3⟩ := hv1.D
  obtain ⟨e9, hw, hn, rfl⟩ := hr.obj ho
  obtain ⟨hP, hK, hD, hS, hA, hW⟩ := hr
  exact va_last hx.1 hx.2.1 hK hP hD hS pp 4 hw rfl (inb_sp hin) hd (fun H1 locs1 g1 g2 g3 => kk_set kk ho rfl ⟨g1, hK, g2, g3, hA, hW.set hpp ⟨hn, rfl⟩⟩ hl hv3 hc hs)
theorem w_dastore {pp n : Nat} {i : Int32} {x : UInt64} {f : Nat → UInt64} {r : List AV} (hx : FX p s m meth c R mi) (hd : decode (mB mi) pc = .ok (.dastore, 1)) (ho : hget h pp = some (oE n f)) (hin : inb i n = true) (hr : HR A D dA q kv s H locs h.1 ws) (hl : LR q kv h.1.length ls (mL mi) L dl) (hv : VL q kv h.1.length (aE x :: aI i :: aD pp :: r) vs) (hc : cells + c0 = costC h) (hs : slots + s0 = costS h) (kk : KK p l e R s m args below meth c Q mi A D dA kv c0 s0 h.1.length q (pc + 1, L, dl, r, hset h pp (oE n (vf_upd f i.toNatClampNeg x)))) : W p l e R s m args below meth c H locs cells slots Q (F0 m pc ls vs) := by
  obtain ⟨xs, rfl, hv0⟩ := hv.E
  obtain ⟨xs, rfl, hv1⟩ := hv0.I
  obtain ⟨ys, rfl, hpp, hv3⟩ := hv1.D
  obtain ⟨e9, hw, hn, rfl⟩ := hr.obj ho
  obtain ⟨hP, hK, hD, hS, hA, hW⟩ := hr
  exact va_dast hx.1 hx.2.1 hK hP hD hS pp 5 hw rfl (inb_sp hin) hd (fun H1 locs1 g1 g2 g3 => kk_set kk ho rfl ⟨g1, hK, g2, g3, hA, hW.set hpp ⟨hn, rfl⟩⟩ hl hv3 hc hs)
theorem w_aaload {v w : AV} {i : Int32} {r : List AV} (hx : FX p s m meth c R mi) (hk : KC kv sc A s s.heap) (hd : decode (mB mi) pc = .ok (.aaload, 1)) (hg : ldR sc h v i = some w) (hr : HR A D dA q kv s H locs h.1 ws) (hl : LR q kv h.1.length ls (mL mi) L dl) (hv : VL q kv h.1.length (aI i :: v :: r) vs) (hc : cells + c0 = costC h) (hs : slots + s0 = costS h) (kk : KK p l e R s m args below meth c Q mi A D dA kv c0 s0 h.1.length q (pc + 1, L, dl, w :: r, h)) : W p l e R s m args below meth c H locs cells slots Q (F0 m pc ls vs) := by
  obtain ⟨xs, rfl, hv1⟩ := hv.I
  obtain ⟨y, ys, rfl, hv2, hv3⟩ := hv1.cons
  unfold ldR at hg
  rcases v with i9 | pp | kc | u | i9 | i9 | i9 | u
  all_goals first | (simp [oget] at hg; done) | skip
  · obtain ⟨hp, rfl⟩ := hv2
    simp only [oget] at hg
    split at hg
    · rename_i n f ho
      split at hg
      · rename_i hcc
        cases hg
        obtain ⟨e9, hw, -, g9, rfl, hg9⟩ := hr.obj ho
        exact va_aldq (C := "BranchSlotFiller$Program") hx.1 hx.2.1 hr.2.1 hr.1 pp 6 hw rfl (inb_sp hcc.1) hd (kk0 kk hr hc hs hl ⟨hg9 _, hv3⟩)
      · cases hg
    · cases hg
  · have hy : y = kv kc := hv2
    simp only [oget] at hg
    split at hg
    · rename_i n f ho
      split at hg
      · rename_i hcc
        cases hg
        obtain ⟨a9, ha9, hT, hC⟩ := hk.2.2.1.2.2.2.1 kc n f ho
        rw [hy, ha9]
        obtain ⟨k', hk'⟩ := hC i.toNatClampNeg
        refine vb_tq (C := "BranchSlotFiller$Kind") hx.1 hx.2.1 hT hr.2.2.2.1 (inb_sp hcc.1) rfl hd (kk0 kk hr hc hs hl ⟨?_, hv3⟩)
        rw [hk']
        rfl
      · cases hg
    · cases hg
theorem w_aastore {pp : Nat} {i : Int32} {v : AV} {r : List AV} {h' : AH} (hx : FX p s m meth c R mi) (hd : decode (mB mi) pc = .ok (.aastore, 1)) (hg : stR h pp i v = some h') (hr : HR A D dA q kv s H locs h.1 ws) (hl : LR q kv h.1.length ls (mL mi) L dl) (hv : VL q kv h.1.length (v :: aI i :: aD pp :: r) vs) (hc : cells + c0 = costC h) (hs : slots + s0 = costS h) (kk : KK p l e R s m args below meth c Q mi A D dA kv c0 s0 h.1.length q (pc + 1, L, dl, r, h')) : W p l e R s m args below meth c H locs cells slots Q (F0 m pc ls vs) := by
  unfold stR at hg
  split at hg
  · rename_i n f k9 ho
    obtain ⟨xs, rfl, hk9, hv1⟩ := hv.D
    obtain ⟨xs, rfl, hv2⟩ := hv1.I
    obtain ⟨ys, rfl, hpp, hv3⟩ := hv2.D
    split at hg
    · rename_i c9 fs9 ho9
      split at hg
      · rename_i hcc
        cases hg
        obtain ⟨e9, hw, hn, g9, rfl, hg9⟩ := hr.obj ho
        obtain ⟨e8, hw8, vs8, rfl, -, ⟨r8, hr8, -⟩, -⟩ := hr.obj ho9
        obtain ⟨hP, hK, hD, hS, hA, hW⟩ := hr
        obtain ⟨hin, rfl⟩ := hcc
        have hr8n : r8.1 = "BranchSlotFiller$Program" := by
          have : vwCl[ciProg]? = some (RX6, TX6, 2) := rfl
          rw [this] at hr8
          cases hr8
          rfl
        refine va_astq hx.1 hx.2.1 hK hP hD hS pp 6 k9 ciProg hw (by rw [hr8n]; rfl) hw8 hr8 (inb_sp hin) hd (fun H1 locs1 g1 g2 g3 => kk_set kk ho rfl ⟨g1, hK, g2, g3, hA, hW.set hpp ⟨hn, _, rfl, fun j => ?_⟩⟩ hl hv3 hc hs)
        by_cases hj : j = i.toNatClampNeg
        · simp only [hj, if_true, va_up]
          exact ⟨hk9, rfl⟩
        · simp only [if_neg hj, va_up]
          exact hg9 j
      · cases hg
    · cases hg
  · cases hg
theorem w_alen {v : AV} {n : Nat} {r : List AV} (hx : FX p s m meth c R mi) (hk : KC kv sc A s s.heap) (hd : decode (mB mi) pc = .ok (.arraylength, 1)) (hg : lenA sc h v = some n) (hr : HR A D dA q kv s H locs h.1 ws) (hl : LR q kv h.1.length ls (mL mi) L dl) (hv : VL q kv h.1.length (v :: r) vs) (hc : cells + c0 = costC h) (hs : slots + s0 = costS h) (kk : KK p l e R s m args below meth c Q mi A D dA kv c0 s0 h.1.length q (pc + 1, L, dl, aI (nI n) :: r, h)) : W p l e R s m args below meth c H locs cells slots Q (F0 m pc ls vs) := by
  obtain ⟨y, ys, rfl, hv2, hv3⟩ := hv.cons
  unfold lenA at hg
  rcases v with i9 | pp | kc | u | i9 | i9 | i9 | u
  all_goals first | (simp [oget] at hg; done) | skip
  · obtain ⟨hp, rfl⟩ := hv2
    simp only [oget] at hg
    split at hg
    · rename_i t n f ho
      cases hg
      obtain ⟨e9, hw, ht, -, rfl⟩ := hr.obj ho
      exact va_alen hx.1 hx.2.1 hr.2.1 hr.1 pp t hw (tys_get dA ht) rfl hd (kk0 kk hr hc hs hl ⟨rfl, hv3⟩)
    · rename_i n f ho
      cases hg
      obtain ⟨e9, hw, -, g9, rfl, hg9⟩ := hr.obj ho
      exact va_alen (ty := .object "BranchSlotFiller$Program") hx.1 hx.2.1 hr.2.1 hr.1 pp 6 hw rfl rfl hd (kk0 kk hr hc hs hl ⟨rfl, hv3⟩)
    · cases hg
  · have hy : y = kv kc := hv2
    simp only [oget] at hg
    split at hg
    · rename_i t n f ho
      cases hg
      obtain ⟨ht, a9, ha9, hT⟩ := hk.2.2.1.2.2.1 kc t _ f ho
      rw [hy, ha9]
      exact va_tlen hx.1 hx.2.1 hT hr.2.2.2.1 rfl hd (kk0 kk hr hc hs hl ⟨rfl, hv3⟩)
    · rename_i n f ho
      cases hg
      obtain ⟨a9, ha9, hT, hC⟩ := hk.2.2.1.2.2.2.1 kc _ f ho
      rw [hy, ha9]
      exact va_tlen hx.1 hx.2.1 hT hr.2.2.2.1 rfl hd (kk0 kk hr hc hs hl ⟨rfl, hv3⟩)
    · cases hg
end
