/-! SOUNDNESS 11: what the tables say of a method; contracts -/
theorem mw_len : MTl.length = 211 ∧ MWl.length = 211 := by decide +kernel
theorem mw_use {k : Nat} {mi : MI} {mw : Nat × Nat × Nat × Nat} (h1 : MTl[k]? = some mi) (h2 : MWl[k]? = some mw) (hk : k < 210) : mOK mi mw = true := by
  have hz : ((MTl.zip MWl).take 210)[k]? = some (mi, mw) := by
    rw [List.getElem?_take_of_lt hk, List.getElem?_zip_eq_some]
    exact ⟨h1, h2⟩
  have key : ∀ j, j < 12 → ((((MTl.zip MWl).take 210).drop (20 * j)).take 20).all (fun q => mOK q.1 q.2) = true := by
    intro j hj
    have hj2 : j = 0 ∨ j = 1 ∨ j = 2 ∨ j = 3 ∨ j = 4 ∨ j = 5 ∨ j = 6 ∨ j = 7 ∨ j = 8 ∨ j = 9 ∨ j = 10 ∨ j = 11 := by omega
    rcases hj2 with rfl | rfl | rfl | rfl | rfl | rfl | rfl | rfl | rfl | rfl | rfl | rfl
    · exact mw_ok0
    · exact mw_ok1
    · exact mw_ok2
    · exact mw_ok3
    · exact mw_ok4
    · exact mw_ok5
    · exact mw_ok6
    · exact mw_ok7
    · exact mw_ok8
    · exact mw_ok9
    · exact mw_ok10
    · exact mw_ok11
  refine List.all_eq_true.mp (key (k / 20) (by omega)) (mi, mw) (List.mem_of_getElem? (i := k % 20) ?_)
  rw [List.getElem?_take_of_lt (by omega), List.getElem?_drop, show 20 * (k / 20) + k % 20 = k by omega]
  exact hz
theorem rk_top : MTl.all (fun mi => Nat.ble (mRk mi) (mRk mi_L_law)) = true := by decide +kernel
theorem law_at : MTl[210]? = some mi_L_law := rfl
theorem y_lt {y : Nat} {mi my : MI} (hmi : mi ∈ MTl) (hy : MT y = some my) (hrk : mRk my < mRk mi) : y < 210 := by
  have h1 : y < 211 := by
    have := (List.getElem?_eq_some_iff.mp (show MTl[y]? = some my from hy)).1
    rw [mw_len.1] at this
    exact this
  by_cases h2 : y = 210
  · subst h2
    have h3 : some my = some mi_L_law := (show MTl[210]? = some my from hy).symm.trans law_at
    cases h3
    have h4 := Nat.le_of_ble_eq_true (List.all_eq_true.mp rk_top mi hmi)
    omega
  · omega
/-- what the tables say of a method -/
def MK (mi : MI) (w : Nat × Nat × Nat × Nat) : Prop :=
  ((mHH mi = [] ∧ lw_tb2[w.1]? = some (.code (mY mi) (mB mi) (mL mi) (mRet mi))) ∨ (mHH mi ≠ [] ∧ mRci mi = 999 ∧ lw_tb2[w.1]? = some (.codeWith (mY mi) (mB mi) (mL mi) (mRet mi) (mHH mi)))) ∧
  lw_tb2[w.2.1]? = some (if mRci mi = 999 then .static (mY mi) else .instanceMethod (mY mi)) ∧
  (mRci mi = 999 ∨ (mY mi).name = "<init>" ∨ w.2.2.1 = 9999 ∨ lw_tb2[w.2.2.1]? = some (.selects (rcn (mRci mi)) (mY mi) (mY mi))) ∧
  lw_tb2[w.2.2.2]? = some (.initialized (mY mi).cls) ∧ (RTl[mCn mi]?).map (·.1) = some (mOwn mi) ∧ (mY mi).cls = mOwn mi ∧ plainName (mY mi).cls = true ∧ mL mi ≤ 20 ∧
  (parseMethodDescriptor (mY mi).desc).map (fun d => d.parameters.length + (if mRci mi = 999 then 0 else 1)) = some (mNa mi) ∧ ((mY mi).cls ≠ "java/lang/invoke/MethodHandle" ∧ (mY mi).cls ≠ "java/lang/invoke/VarHandle") ∧ (mRci mi = 999 ∨ 1 ≤ mNa mi) ∧ mNa mi ≤ mL mi
theorem MK_of {mi : MI} {w : Nat × Nat × Nat × Nat} (h : mOK mi w = true) : MK mi w := by
  unfold mOK at h
  simp only [Bool.and_eq_true, Bool.or_eq_true, decide_eq_true_eq, Bool.not_eq_true', decide_eq_false_iff_not] at h
  obtain ⟨⟨⟨⟨⟨⟨⟨⟨⟨⟨⟨hX, hE⟩, hF⟩, hG⟩, hH⟩, hI⟩, hJ⟩, hK⟩, hL⟩, hM⟩, hN⟩, hO⟩ := h
  refine ⟨?_, hE, ?_, hG, hH, hI, hJ, Nat.le_of_ble_eq_true hK, hL, hM, ?_, Nat.le_of_ble_eq_true hO⟩
  · rcases hX with ⟨h1, h2⟩ | ⟨⟨h1, h2⟩, h3⟩
    · exact Or.inl ⟨h1, h2⟩
    · exact Or.inr ⟨h1, h2, h3⟩
  · rcases hF with ((h1 | h1) | h1) | h1
    · exact Or.inl h1
    · exact Or.inr (Or.inl h1)
    · exact Or.inr (Or.inr (Or.inl h1))
    · exact Or.inr (Or.inr (Or.inr h1))
  · rcases hN with h1 | h1
    · exact Or.inl h1
    · exact Or.inr (Nat.le_of_ble_eq_true h1)
theorem MK_at {y : Nat} {my : MI} (hy : MT y = some my) (hlt : y < 210) : ∃ mw, MWl[y]? = some mw ∧ MK my mw := by
  have h1 : y < MWl.length := by rw [mw_len.2]; omega
  exact ⟨MWl[y], List.getElem?_eq_getElem h1, MK_of (mw_use hy (List.getElem?_eq_getElem h1) hlt)⟩
theorem MK.len {mi : MI} {w : Nat × Nat × Nat × Nat} (h : MK mi w) : ∀ sig, parseMethodDescriptor (mY mi).desc = some sig → sig.parameters.length + (if mRci mi = 999 then 0 else 1) = mNa mi := by
  intro sig hs
  have h1 := h.2.2.2.2.2.2.2.2.1
  rw [hs] at h1
  exact Option.some.inj h1
/-- the word of a method's code -/
def wM (mi : MI) : Cond := if mHH mi = [] then .code (mY mi) (mB mi) (mL mi) (mRet mi) else .codeWith (mY mi) (mB mi) (mL mi) (mRet mi) (mHH mi)
theorem MK.wm {mi : MI} {w : Nat × Nat × Nat × Nat} (h : MK mi w) : wM mi ∈ lw_tb2 ∧ okv (wM mi) = true ∧ goodWord (wM mi) = true := by
  unfold wM
  rcases h.1 with ⟨h1, h2⟩ | ⟨h1, -, h2⟩
  · rw [if_pos h1]
    exact ⟨List.mem_of_getElem? h2, rfl, rfl⟩
  · rw [if_neg h1]
    exact ⟨List.mem_of_getElem? h2, rfl, rfl⟩
abbrev rmM (mi : MI) (h h1 : AH) : Room := { frames := mRk mi + 10, cells := costC h1 - costC h, slots := costS h1 - costS h, locals := 45 * mRk mi + 400 }
def PcM (A : Nat → Prop) (D : va_G) (dA : Nat → ClassId) (kv : Nat → Value) (sc : SC) (ws : va_W) (As : List Value) : Array Value → State → Prop := fun a U => a = As.toArray ∧ KC kv sc A U U.heap ∧ va_K D vwCl (tysOf dA) U ∧ va_P D vwCl ws U.heap ∧ va_D A ws ∧ ∀ b, U.heap.size ≤ b → A b
theorem PcM_blind {A : Nat → Prop} {D : va_G} {dA : Nat → ClassId} {kv : Nat → Value} {sc : SC} {ws : va_W} {As : List Value} : FrameBlind (PcM A D dA kv sc ws As) := by
  intro a U g mk h
  obtain ⟨h1, h2, h3, h4, h5, h6⟩ := h
  have hW : U.WarmedH (U.calling g mk a).vm := State.WarmedH.refl U
  exact ⟨h1, KC.callee h2 hW (fun _ _ _ => rfl) (fun _ z => z), h3.moved hW.alike, h4, h5, h6⟩
theorem PcM_pre {A : Nat → Prop} {D : va_G} {dA : Nat → ClassId} {kv : Nat → Value} {sc : SC} {ws : va_W} {As : List Value} {s : State} {H : Heap} {locs : List Loc} {h : List AO} {q : Nat → Nat} (hk : KC kv sc A s s.heap) (hr : HR A D dA q kv s H locs h ws) : ∀ U : State, U.heap = H → s.WarmedH U.vm → PcM A D dA kv sc ws As As.toArray U := by
  intro U hU hW
  obtain ⟨hP, hK, hD, hS, hA, -⟩ := hr
  subst hU
  exact ⟨rfl, hk.callee hW hS.2.1 (fun _ z => z), hK.moved hW.alike, hP, hD, fun b hb => hA b (Nat.le_trans hS.1 hb)⟩
def OV (q : Nat → Nat) (kv : Nat → Value) (n : Nat) : Option AV → Option Value → Prop
  | none, none => True
  | some v, some x => Vr q kv n v x
  | _, _ => False
def Wd (A : Nat → Prop) (D : va_G) (dA : Nat → ClassId) (kv : Nat → Value) (q0 : Nat → Nat) (n0 : Nat) (h1 : List AO) (q' : Nat → Nat) (H1 : Heap) : Prop := (∀ j, j < n0 → q' j = q0 j) ∧ ∃ ws' : va_W, va_P D vwCl ws' H1 ∧ va_D A ws' ∧ WR q' kv dA h1 ws'
def QcM (A : Nat → Prop) (D : va_G) (dA : Nat → ClassId) (kv : Nat → Value) (q0 : Nat → Nat) (n0 : Nat) (r : Res) : Array Value → State → Outcome → State → Prop := fun _ st o t => (∃ (v : Option AV) (x : Option Value) (q' : Nat → Nat), r.1 = .inl v ∧ o = .returned x ∧ OV q' kv r.2.1.length v x ∧ Wd A D dA kv q0 n0 r.2.1 q' t.heap) ∧ va_F A st t
def XcM (A : Nat → Prop) (D : va_G) (dA : Nat → ClassId) (kv : Nat → Value) (q0 : Nat → Nat) (n0 : Nat) (r : Res) : String → State → State → Prop := fun E st t => (∃ (E9 : Nat) (nms : List String) (q' : Nat → Nat), r.1 = .inr E9 ∧ EXl[E9]? = some (E, nms) ∧ Wd A D dA kv q0 n0 r.2.1 q' t.heap) ∧ va_F A st t
abbrev MetM (l : Launch) (sc : SC) (A : Nat → Prop) (D : va_G) (dA : Nat → ClassId) (kv : Nat → Value) (mi : MI) (h : AH) (r : Res) (q : Nat → Nat) (ws : va_W) (As : List Value) : Prop :=
  vx_Met l (mY mi) [wM mi] (rmM mi h r.2) (PcM A D dA kv sc ws As) (QcM A D dA kv q h.1.length r) (XcM A D dA kv q h.1.length r) (costC r.2 - costC h) (costS r.2 - costS h) A
section
variable {p : Program} {l : Launch} {e : Env} {R : Room} {s : State} {m : MethodId} {args : Array Value} {below : List Frame} {meth : Method} {c : Code} {Q : State → Prop}
variable {mi : MI} {sc : SC} {A : Nat → Prop} {D : va_G} {dA : Nat → ClassId} {kv : Nat → Value}
variable {pc : Nat} {L : List AV} {dl : DL} {st : List AV} {h : AH} {ls : Array Slot} {vs : List Value} {H : Heap} {locs : List Loc} {cells slots : Nat} {q : Nat → Nat} {ws : va_W}
theorem vx_cont {mc ms n0 : Nat} {r1 : Res} {q0 : Nat → Nat} {a : Array Value} {st0 rest : List Value}
    (hr : vx_Run p l e R s m args below meth c H locs cells slots mc ms (F0 m pc ls st0) rest (QcM A D dA kv q0 n0 r1 a) (XcM A D dA kv q0 n0 r1) A) (hS : va_S A s.heap H locs)
    (kk : ∀ (v : Option AV) (x : Option Value) (q' : Nat → Nat) (ws' : va_W) (H1 : Heap) (locs1 : List Loc), r1.1 = .inl v → OV q' kv r1.2.1.length v x → (∀ j, j < n0 → q' j = q0 j) → va_P D vwCl ws' H1 → va_D A ws' → WR q' kv dA r1.2.1 ws' → va_S A s.heap H1 locs1 → W p l e R s m args below meth c H1 locs1 (cells + mc) (slots + ms) Q (F0 m (pc + 3) ls (x.toList ++ rest)))
    (kx : ∀ (E : Nat) (nm : String) (nms : List String) (ce : Cell) (q9 : Addr) (q' : Nat → Nat) (ws' : va_W) (H1 : Heap) (locs1 : List Loc), r1.1 = .inr E → EXl[E]? = some (nm, nms) → (∀ j, j < n0 → q' j = q0 j) → va_P D vwCl ws' H1 → va_D A ws' → WR q' kv dA r1.2.1 ws' → va_S A s.heap H1 locs1 → H1[q9]? = some ce → ce.vm = .none → s.vm.findClass nm = some ce.cls → vx_W p l e R s m args below meth c H1 locs1 (cells + mc) (slots + ms) Q (F0 m pc ls rest) q9) : W p l e R s m args below meth c H locs cells slots Q (F0 m pc ls st0) := by
  intro T hT X
  rcases hr T hT X with ⟨v, st₀, t, T', L, h0, X', hL, e1, e2, ⟨⟨w, x, q', g1, g2, g3, g4, ws', g5, g6, g7⟩, hF⟩, stp⟩ | ⟨q9, st₀, t, T', L, E, ce, h0, X', hL, e1, e2, ⟨⟨E9, nms, q', g1, g2, g4, ws', g5, g6, g7⟩, hF⟩, hce, hcv, hcl, stp⟩
  · cases g2
    obtain ⟨k1, k2, k3⟩ := vx_keep h0 e1 hS (fun _ _ z => z) (fun _ z => z) hL hF
    obtain ⟨t2, a1, b1⟩ := kk w v q' ws' T'.heap (locs ++ L) g1 g3 g4 (by rw [e1]; exact g5) g6 g7 k3 T' rfl X'
    exact ⟨t2, stp t2 a1, b1⟩
  · obtain ⟨k1, k2, k3⟩ := vx_keep h0 e1 hS (fun _ _ z => z) (fun _ z => z) hL hF
    obtain ⟨t2, a1, b1⟩ := kx E9 E nms ce q9 q' ws' T'.heap (locs ++ L) g1 g2 g4 (by rw [e1]; exact g5) g6 g7 k3 (by rw [e1]; exact hce) hcv hcl T' rfl X'
    exact ⟨t2, stp.trans a1, b1⟩
/-! ends of a frame, whatever lies below the answer on the stack -/
theorem w_iretR {cc : ByteArray} {Qc : Array Value → State → Outcome → State → Prop} {free : Addr → Prop} {v : Int32} {ty : FieldType} {rest : List Value} (hexec : p.tables.exec = Jvm.exec) (hb : c.code = cc) (hr : meth.sig.returnType = some ty) (hn : narrow ty (.int v) = .int v)
    (hq : ∀ t : State, t.heap = H → s.WarmedH t.vm → Qc args s (.returned (some (.int v))) t) (hf : ∀ q ∈ locs, free q.base)
    (hdg : decode cc pc = .ok (.ireturn, 1)) (hlocks : meth.locks = false) : W p l e R s m args below meth c H locs cells slots (MQ below Qc args s cells slots free) (F0 m pc ls (.int v :: rest)) := by
  intro T hT X
  obtain ⟨fs, hret, hrun, hended, hW, hframe⟩ := X.leave (v := some (.int v)) (fun h => by rw [hr] at h; cases h)
  have hmeth' : T.vm.method? m = some meth := X.method'
  refine ⟨T.setFrames fs, ?_, .returned (some (.int v)), hrun, hended, hq _ hT hW, locs, ⟨⟨_, rfl⟩, hW, hframe⟩, hf⟩
  jvm_step X.here [X.here.top, hexec, hb, hdg, hmeth', hr, hn]
  (try refine ⟨rfl, ?_⟩); (try refine ⟨rfl, ?_⟩)
  first | (intro acts; rw [hret _ acts rfl rfl rfl]) | rw [hret _ _ rfl rfl rfl]
  exact Steps.refl _
theorem w_aretR {cc : ByteArray} {Qc : Array Value → State → Outcome → State → Prop} {free : Addr → Prop} {a : Nat} {rt : FieldType} {rest : List Value} (hexec : p.tables.exec = Jvm.exec) (hb : c.code = cc) (hr : meth.sig.returnType = some rt)
    (hrt : (∃ n, rt = .object n) ∨ ∃ t, rt = .array t)
    (hq : ∀ t : State, t.heap = H → s.WarmedH t.vm → Qc args s (.returned (some (.ref a))) t) (hf : ∀ q ∈ locs, free q.base)
    (hdg : decode cc pc = .ok (.areturn, 1)) (hlocks : meth.locks = false) : W p l e R s m args below meth c H locs cells slots (MQ below Qc args s cells slots free) (F0 m pc ls (.ref a :: rest)) := by
  intro T hT X
  obtain ⟨fs, hret, hrun, hended, hW, hframe⟩ := X.leave (v := some (.ref a)) (fun h => by rw [hr] at h; cases h)
  have hmeth' : T.vm.method? m = some meth := X.method'
  refine ⟨T.setFrames fs, ?_, .returned (some (.ref a)), hrun, hended, hq _ hT hW, locs, ⟨⟨_, rfl⟩, hW, hframe⟩, hf⟩
  rcases hrt with ⟨n, rfl⟩ | ⟨t, rfl⟩ <;>
    (jvm_step X.here [X.here.top, hexec, hb, hdg, hmeth', hr]
     (try refine ⟨rfl, ?_⟩); (try refine ⟨rfl, ?_⟩)
     first | (intro acts; rw [hret _ acts rfl rfl rfl]) | rw [hret _ _ rfl rfl rfl]
     exact Steps.refl _)
theorem w_dretR {cc : ByteArray} {Qc : Array Value → State → Outcome → State → Prop} {free : Addr → Prop} {v : UInt64} {rest : List Value} (hexec : p.tables.exec = Jvm.exec) (hb : c.code = cc) (hr : meth.sig.returnType = some .double)
    (hq : ∀ t : State, t.heap = H → s.WarmedH t.vm → Qc args s (.returned (some (.double v))) t) (hf : ∀ q ∈ locs, free q.base)
    (hdg : decode cc pc = .ok (.dreturn, 1)) (hlocks : meth.locks = false) : W p l e R s m args below meth c H locs cells slots (MQ below Qc args s cells slots free) (F0 m pc ls (.double v :: rest)) := by
  intro T hT X
  obtain ⟨fs, hret, hrun, hended, hW, hframe⟩ := X.leave (v := some (.double v)) (fun h => by rw [hr] at h; cases h)
  have hmeth' : T.vm.method? m = some meth := X.method'
  refine ⟨T.setFrames fs, ?_, .returned (some (.double v)), hrun, hended, hq _ hT hW, locs, ⟨⟨_, rfl⟩, hW, hframe⟩, hf⟩
  jvm_step X.here [X.here.top, hexec, hb, hdg, hmeth', hr, narrow]
  (try refine ⟨rfl, ?_⟩); (try refine ⟨rfl, ?_⟩)
  first | (intro acts; rw [hret _ acts rfl rfl rfl]) | rw [hret _ _ rfl rfl rfl]
  exact Steps.refl _
theorem w_fretR {cc : ByteArray} {Qc : Array Value → State → Outcome → State → Prop} {free : Addr → Prop} {v : UInt32} {rest : List Value} (hexec : p.tables.exec = Jvm.exec) (hb : c.code = cc) (hr : meth.sig.returnType = some .float)
    (hq : ∀ t : State, t.heap = H → s.WarmedH t.vm → Qc args s (.returned (some (.float v))) t) (hf : ∀ q ∈ locs, free q.base)
    (hdg : decode cc pc = .ok (.freturn, 1)) (hlocks : meth.locks = false) : W p l e R s m args below meth c H locs cells slots (MQ below Qc args s cells slots free) (F0 m pc ls (.float v :: rest)) := by
  intro T hT X
  obtain ⟨fs, hret, hrun, hended, hW, hframe⟩ := X.leave (v := some (.float v)) (fun h => by rw [hr] at h; cases h)
  have hmeth' : T.vm.method? m = some meth := X.method'
  refine ⟨T.setFrames fs, ?_, .returned (some (.float v)), hrun, hended, hq _ hT hW, locs, ⟨⟨_, rfl⟩, hW, hframe⟩, hf⟩
  jvm_step X.here [X.here.top, hexec, hb, hdg, hmeth', hr, narrow]
  (try refine ⟨rfl, ?_⟩); (try refine ⟨rfl, ?_⟩)
  first | (intro acts; rw [hret _ acts rfl rfl rfl]) | rw [hret _ _ rfl rfl rfl]
  exact Steps.refl _
theorem w_vretR {cc : ByteArray} {Qc : Array Value → State → Outcome → State → Prop} {free : Addr → Prop} {rest : List Value} (hexec : p.tables.exec = Jvm.exec) (hb : c.code = cc) (hr : meth.sig.returnType = none)
    (hq : ∀ t : State, t.heap = H → s.WarmedH t.vm → Qc args s (.returned none) t) (hf : ∀ q ∈ locs, free q.base)
    (hdg : decode cc pc = .ok (.return_, 1)) (hlocks : meth.locks = false) : W p l e R s m args below meth c H locs cells slots (MQ below Qc args s cells slots free) (F0 m pc ls rest) := by
  intro T hT X
  obtain ⟨fs, hret, hrun, hended, hW, hframe⟩ := X.leave (v := none) (fun _ => rfl)
  have hmeth' : T.vm.method? m = some meth := X.method'
  refine ⟨T.setFrames fs, ?_, .returned none, hrun, hended, hq _ hT hW, locs, ⟨⟨_, rfl⟩, hW, hframe⟩, hf⟩
  jvm_step X.here [X.here.top, hexec, hb, hdg, hmeth', hr]
  (try refine ⟨rfl, ?_⟩); (try refine ⟨rfl, ?_⟩)
  first | (intro acts; rw [hret _ acts rfl rfl rfl]) | rw [hret _ _ rfl rfl rfl]
  exact Steps.refl _
theorem retK_sp {r : Option FieldType} {x : Int32} (h : retK r x = true) : ∃ ty, r = some ty ∧ narrow ty (.int x) = .int x := by
  unfold retK at h
  split at h
  · exact ⟨_, rfl, rfl⟩
  · simp only [Bool.or_eq_true, decide_eq_true_eq] at h
    rcases h with rfl | rfl <;> exact ⟨_, rfl, rfl⟩
  · exact ⟨_, rfl, of_decide_eq_true h⟩
  · simp only [Bool.or_eq_true, decide_eq_true_eq] at h
    rcases h with rfl | rfl <;> exact ⟨_, rfl, rfl⟩
  · cases h
theorem retA_sp {r : Option FieldType} (h : retA r = true) : ∃ rt, r = some rt ∧ ((∃ n, rt = .object n) ∨ ∃ t, rt = .array t) := by
  unfold retA at h
  split at h
  · exact ⟨_, rfl, Or.inl ⟨_, rfl⟩⟩
  · exact ⟨_, rfl, Or.inr ⟨_, rfl⟩⟩
  · cases h
theorem retD_sp {r : Option FieldType} (h : retD r = true) : r = some .double := by
  unfold retD at h
  split at h
  · rfl
  · cases h
theorem retF_sp {r : Option FieldType} (h : retF r = true) : r = some .float := by
  unfold retF at h
  split at h
  · rfl
  · cases h
theorem retV_sp {r : Option FieldType} (h : retV r = true) : r = none := by
  unfold retV at h
  split at h
  · rfl
  · cases h
/-- an end of a frame: the answer is handed on -/
theorem step_ret {h' : AH} {v : Option AV} {n0 : Nat} {q0 : Nat → Nat} {Qc : Array Value → State → Outcome → State → Prop} {c0 s0 : Nat} (hx : FX p s m meth c R mi) (hkv : KV kv) (hst : stp sc mi pc L dl st h = some (.inr (.inl (v, h')))) (hr : HR A D dA q kv s H locs h.1 ws) (hv : VL q kv h.1.length st vs)
    (hq : ∀ (x : Option Value) (t : State), t.heap = H → OV q kv h.1.length v x → h' = h → Qc args s (.returned x) t) : W p l e R s m args below meth c H locs cells slots (MQ below Qc args s cells slots A) (F0 m pc ls vs) := by
  obtain ⟨ins, len, hd, hlen, hs, g⟩ := stp_G hst
  obtain ⟨x1, x2, x3, x4, x5, x6, x7, x8, x9, x10, es, x11⟩ := hx
  have hf : ∀ z ∈ locs, A z.base := hr.2.2.2.1.2.2
  have hs2 := g.2
  rcases hs2 with ⟨z, hz⟩ | hs2
  · cases hz
  · cases ins <;> first | (simp [sp] at hs2; done) | skip
    case ireturn =>
      cases Nat.eq_of_beq_eq_true hlen
      simp only [st1] at hs
      split at hs
      · split at hs
        · rename_i x r hk
          cases hs
          obtain ⟨xs, rfl, hv2⟩ := hv.I
          obtain ⟨ty, e1, e2⟩ := retK_sp hk
          exact w_iretR x1 x2 (x5.trans e1) e2 (fun t ht _ => hq _ t ht rfl rfl) hf hd x6
        · cases hs
      · cases hs
    case areturn =>
      cases Nat.eq_of_beq_eq_true hlen
      simp only [st1] at hs
      split at hs
      · split at hs
        · rename_i v r hk
          cases hs
          obtain ⟨a, xs, rfl, hv1, hv2⟩ := hv.obj hkv hk.1
          obtain ⟨rt, e1, e2⟩ := retA_sp hk.2
          exact w_aretR x1 x2 (x5.trans e1) e2 (fun t ht _ => hq _ t ht hv1 rfl) hf hd x6
        · cases hs
      · cases hs
    case dreturn =>
      cases Nat.eq_of_beq_eq_true hlen
      simp only [st1] at hs
      split at hs
      · split at hs
        · rename_i x r hk
          cases hs
          obtain ⟨xs, rfl, hv2⟩ := hv.E
          exact w_dretR x1 x2 (x5.trans (retD_sp hk)) (fun t ht _ => hq _ t ht rfl rfl) hf hd x6
        · cases hs
      · cases hs
    case freturn =>
      cases Nat.eq_of_beq_eq_true hlen
      simp only [st1] at hs
      split at hs
      · split at hs
        · rename_i x r hk
          cases hs
          obtain ⟨xs, rfl, hv2⟩ := hv.F
          exact w_fretR x1 x2 (x5.trans (retF_sp hk)) (fun t ht _ => hq _ t ht rfl rfl) hf hd x6
        · cases hs
      · cases hs
    case return_ =>
      cases Nat.eq_of_beq_eq_true hlen
      simp only [st1] at hs
      split at hs
      · rename_i hk
        cases hs
        exact w_vretR x1 x2 (x5.trans (retV_sp hk)) (fun t ht _ => hq _ t ht trivial rfl) hf hd x6
      · cases hs
    all_goals
      exfalso
      simp only [st1, invA, callA, throwA, go] at hs
      repeat' split at hs
      all_goals simp at hs
end
