/-! SOUNDNESS 15: handlers; the main induction -/
theorem cas_ok : EXl.all (fun q => lw_tbl.contains (.castable q.1 q.1)) = true := by decide +kernel
section
variable {p : Program} {l : Launch} {e : Env} {R : Room} {s : State} {m : MethodId} {args : Array Value} {below : List Frame} {meth : Method} {c : Code} {Q : State → Prop}
variable {mi : MI} {sc : SC} {A : Nat → Prop} {D : va_G} {dA : Nat → ClassId} {kv : Nat → Value}
variable {pc : Nat} {L : List AV} {dl : DL} {st : List AV} {h : AH} {ls : Array Slot} {vs : List Value} {H : Heap} {locs : List Loc} {cells slots : Nat} {q : Nat → Nat} {ws : va_W}
/-- the row of a table that takes E -/
theorem hnd_take {E i t : Nat} {nm : String} {nms : List String} (hx : FX p s m meth c R mi) (hk : KC kv sc A s s.heap) (hE : EXl[E]? = some (nm, nms)) : ∀ hh : List (Nat × Nat × Nat × Nat), hnd mi pc E hh = some (some (i, t)) →
    ∃ (pre : List ExceptionTableEntry) (x : ExceptionTableEntry) (suf : List ExceptionTableEntry), tableOf hh = pre ++ x :: suf ∧ (∀ z ∈ pre, covers z pc = false ∨ (z.catchType ≠ 0 ∧ ∃ n9 : String, (Cond.classLink (mOwn mi) z.catchType n9).before args s = true ∧ va_Nc nm n9 s)) ∧
      covers x pc = true ∧ x.catchType ≠ 0 ∧ (Cond.classLink (mOwn mi) x.catchType nm).before args s = true ∧ i < mL mi ∧ ((∃ k : Fin 4, decode (mB mi) x.handlerPc = .ok (.astore_n k, 1) ∧ (k : Nat) = i ∧ t = x.handlerPc + 1) ∨ (decode (mB mi) x.handlerPc = .ok (.astore i, 2) ∧ t = x.handlerPc + 2)) := by
  intro hh
  induction hh with
  | nil => intro e9; simp [hnd] at e9
  | cons r hh ih =>
    intro e9
    rw [hnd] at e9
    have hT : tableOf (r :: hh) = (⟨r.1, r.2.1, r.2.2.1, r.2.2.2⟩ : ExceptionTableEntry) :: tableOf hh := rfl
    split at e9
    · rename_i hcov
      have hcv : covers (⟨r.1, r.2.1, r.2.2.1, r.2.2.2⟩ : ExceptionTableEntry) pc = true := by
        show (decide (r.1 ≤ pc) && decide (pc < r.2.1)) = true
        simp [hcov.1, hcov.2]
      split at e9
      · rename_i E' x he
        split at e9
        · rename_i hEE
          subst hEE
          obtain ⟨q9, hq9, hl9⟩ := exc_row (args := args) (w1 := x.1) (w2 := x.2) hx hk he
          cases hq9.symm.trans hE
          have h0 := idx_ne (x := E') (y := x.1) (w := x.2) hx he
          refine ⟨[], _, tableOf hh, hT, (fun z hz => nomatch hz), hcv, h0, hl9, ?_⟩
          split at e9
          · rename_i k hdk
            split at e9
            · rename_i hkl
              cases e9
              exact ⟨hkl, Or.inl ⟨k, hdk, rfl, rfl⟩⟩
            · cases e9
          · rename_i k hdk
            split at e9
            · rename_i hkl
              cases e9
              exact ⟨hkl, Or.inr ⟨hdk, rfl⟩⟩
            · cases e9
          · cases e9
        · rename_i hne
          obtain ⟨pre, y, suf, g1, g2, g3⟩ := ih e9
          refine ⟨_ :: pre, y, suf, by rw [hT, g1]; rfl, fun z hz => ?_, g3⟩
          rcases List.mem_cons.mp hz with rfl | hz
          · exact Or.inr (pass_row hx hk hE (w1 := x.1) (w2 := x.2) he (fun z => hne z.symm) (idx_ne (x := E') (y := x.1) (w := x.2) hx he))
          · exact g2 z hz
      · cases e9
    · rename_i hcov
      obtain ⟨pre, y, suf, g1, g2, g3⟩ := ih e9
      refine ⟨_ :: pre, y, suf, by rw [hT, g1]; rfl, fun z hz => ?_, g3⟩
      rcases List.mem_cons.mp hz with rfl | hz
      · left
        show (decide (r.1 ≤ pc) && decide (pc < r.2.1)) = false
        rw [Bool.and_eq_false_iff]
        by_cases h1 : r.1 ≤ pc
        · right
          simp only [decide_eq_false_iff_not]
          exact fun h2 => hcov ⟨h1, h2⟩
        · left
          simp only [decide_eq_false_iff_not]
          exact h1
      · exact g2 z hz
theorem ret_same {v : Option AV} {h' : AH} (hst : stp sc mi pc L dl st h = some (.inr (.inl (v, h')))) : h' = h := by
  obtain ⟨ins, len, hd, hlen, hs, g⟩ := stp_G hst
  rcases g.2 with ⟨z, hz⟩ | hs2
  · cases hz
  · cases ins <;> first | (simp [sp] at hs2; done) | skip
    all_goals
      simp only [st1, invA, callA, throwA, go] at hs
      repeat' split at hs
      all_goals first | (cases hs; done) | (cases hs; rfl) | (simp at hs; done)
theorem thr_same {E : Nat} {h' : AH} (hst : stp sc mi pc L dl st h = some (.inr (.inr (.inr (E, h'))))) : h' = (h.1, h.2 + 1) := by
  obtain ⟨ins, len, hd, hlen, hs, g⟩ := stp_G hst
  rcases g.2 with ⟨z, hz⟩ | hs2
  · cases hz
  · cases ins <;> first | (simp [sp] at hs2; done) | skip
    all_goals
      simp only [st1, invA, callA, throwA, go] at hs
      repeat' split at hs
      all_goals first | (cases hs; done) | (cases hs; rfl) | (simp at hs; done)
theorem stp_call {z : Nat × Nat × List AV × Cfg} (hst : stp sc mi pc L dl st h = some (.inr (.inr (.inl z)))) : ∃ iv idx w y kd ins, decode (mB mi) pc = .ok (ins, 3) ∧ ((iv = 0 ∧ ins = .invokevirtual idx) ∨ (iv = 1 ∧ ins = .invokespecial idx) ∨ (iv = 2 ∧ ins = .invokestatic idx)) ∧ rs (mCn mi) idx = some (2, y, kd, w) ∧ kOK iv kd = true ∧ callA sc mi y kd pc L dl st h = some (.inr (.inr (.inl z))) := by
  obtain ⟨ins, len, hd, hlen, hs, g⟩ := stp_G hst
  have inv : ∀ iv idx, invA sc mi iv idx pc L dl st h = some (.inr (.inr (.inl z))) → ∃ w y kd, rs (mCn mi) idx = some (2, y, kd, w) ∧ kOK iv kd = true ∧ callA sc mi y kd pc L dl st h = some (.inr (.inr (.inl z))) := by
    intro iv idx e9
    unfold invA at e9
    split at e9
    · rename_i y kd w he
      split at e9
      · rename_i hk9
        exact ⟨w, y, kd, he, hk9, e9⟩
      · cases e9
    all_goals
      exfalso
      (try simp only [go] at e9)
      repeat' split at e9
      all_goals first | (cases e9; done) | (simp at e9; done)
  rcases g.2 with ⟨z', hz⟩ | hs2
  · cases hz
  · cases ins <;> first | (simp [sp] at hs2; done) | skip
    case invokevirtual i =>
      cases Nat.eq_of_beq_eq_true hlen
      obtain ⟨w, y, kd, g1, g2, g3⟩ := inv 0 i hs
      exact ⟨0, i, w, y, kd, _, hd, Or.inl ⟨rfl, rfl⟩, g1, g2, g3⟩
    case invokespecial i =>
      cases Nat.eq_of_beq_eq_true hlen
      obtain ⟨w, y, kd, g1, g2, g3⟩ := inv 1 i hs
      exact ⟨1, i, w, y, kd, _, hd, Or.inr (Or.inl ⟨rfl, rfl⟩), g1, g2, g3⟩
    case invokestatic i =>
      cases Nat.eq_of_beq_eq_true hlen
      obtain ⟨w, y, kd, g1, g2, g3⟩ := inv 2 i hs
      exact ⟨2, i, w, y, kd, _, hd, Or.inr (Or.inr ⟨rfl, rfl⟩), g1, g2, g3⟩
    all_goals
      exfalso
      simp only [st1, throwA, go] at hs
      repeat' split at hs
      all_goals first | (cases hs; done) | (simp at hs; done)
end
/-- frames of fuel n are sound -/
def FrameS (l : Launch) (sc : SC) (A : Nat → Prop) (D : va_G) (dA : Nat → ClassId) (kv : Nat → Value) (n : Nat) : Prop :=
  ∀ (k : Nat) (mi : MI) (p : Program) (e : Env) (R : Room) (s : State) (m : MethodId) (args : Array Value) (below : List Frame) (meth : Method) (c : Code) (Q : State → Prop) (r : Res) (c0 s0 n0 : Nat) (q0 : Nat → Nat),
    MT k = some mi → FX p s m meth c R mi → KC kv sc A s s.heap → costC r.2 ≤ c0 + R.cells → costS r.2 ≤ s0 + R.slots →
    (∀ (pc : Nat) (L : List AV) (dl : DL) (st : List AV) (v : Option AV) (h : AH) (ls : Array Slot) (vs : List Value) (H : Heap) (locs : List Loc) (cells slots : Nat) (q : Nat → Nat) (ws : va_W), stp sc mi pc L dl st h = some (.inr (.inl (v, r.2))) → r.1 = .inl v → (∀ j, j < n0 → q j = q0 j) → HR A D dA q kv s H locs h.1 ws → VL q kv h.1.length st vs → cells + c0 = costC h → slots + s0 = costS h → W p l e R s m args below meth c H locs cells slots Q (F0 m pc ls vs)) →
    (∀ (pc : Nat) (L : List AV) (dl : DL) (st : List AV) (E : Nat) (h : AH) (ls : Array Slot) (vs : List Value) (H : Heap) (locs : List Loc) (cells slots : Nat) (q : Nat → Nat) (ws : va_W), stp sc mi pc L dl st h = some (.inr (.inr (.inr (E, r.2)))) → r.1 = .inr E → (∀ j, j < n0 → q j = q0 j) → HR A D dA q kv s H locs h.1 ws → ls.size = mL mi → VL q kv h.1.length st vs → cells + c0 = costC h → slots + s0 = costS h → W p l e R s m args below meth c H locs cells slots Q (F0 m pc ls vs)) →
    (∀ (pc E : Nat) (nm : String) (nms : List String) (ce : Cell) (q9 : Addr) (ls : Array Slot) (rest : List Value) (H : Heap) (locs : List Loc) (cells slots : Nat) (q : Nat → Nat) (ws : va_W), hnd mi pc E (mHH mi) = some none → r.1 = .inr E → EXl[E]? = some (nm, nms) → (∀ j, j < n0 → q j = q0 j) → HR A D dA q kv s H locs r.2.1 ws → H[q9]? = some ce → ce.vm = .none → s.vm.findClass nm = some ce.cls → cells + c0 = costC r.2 → slots + s0 = costS r.2 → vx_W p l e R s m args below meth c H locs cells slots Q (F0 m pc ls rest) q9) →
    ∀ (pc : Nat) (L : List AV) (dl : DL) (st : List AV) (h : AH) (ls : Array Slot) (vs : List Value) (H : Heap) (locs : List Loc) (cells slots : Nat) (q : Nat → Nat) (ws : va_W), ex sc n k pc L dl st h = some r → n0 ≤ h.1.length → (∀ j, j < n0 → q j = q0 j) → HR A D dA q kv s H locs h.1 ws → LR q kv h.1.length ls (mL mi) L dl → VL q kv h.1.length st vs → cells + c0 = costC h → slots + s0 = costS h → W p l e R s m args below meth c H locs cells slots Q (F0 m pc ls vs)
theorem lg_len {q : Nat → Nat} {kv : Nat → Value} {n : Nat} (hkv : KV kv) : ∀ {vs : List AV} {xs : List Value}, VL q kv n vs xs → (∀ v ∈ vs, aCat v = 1) → (lg_sl xs).length = vs.length
  | [], [], _, _ => rfl
  | v :: vs, x :: xs, h, hc => by
    have h1 : x.category = 1 := (h.1.cat hkv).trans (hc v List.mem_cons_self)
    have h2 := lg_len hkv h.2 (fun w hw => hc w (List.mem_cons_of_mem _ hw))
    unfold lg_sl at h2 ⊢
    rw [List.flatMap_cons, if_neg (by omega)]
    simp [h2]
  | [], _ :: _, h, _ => h.elim
  | _ :: _, [], h, _ => h.elim
theorem lva_at {q : Nat → Nat} {kv : Nat → Value} {n : Nat} (hkv : KV kv) : ∀ {vs : List AV} {xs : List Value} (i k : Nat) (v : AV), VL q kv n vs xs → (∀ v ∈ vs, aCat v = 1) → vs[k]? = some v → ∃ x, (i + k, x) ∈ lv_args i xs ∧ Vr q kv n v x ∧ x.category = 1
  | [], _, i, k, v, _, _, e => by simp at e
  | w :: vs, x :: xs, i, 0, v, h, hc, e => by
    simp at e
    subst e
    exact ⟨x, by unfold lv_args; exact List.mem_cons_self, h.1, (h.1.cat hkv).trans (hc _ List.mem_cons_self)⟩
  | w :: vs, x :: xs, i, k + 1, v, h, hc, e => by
    have h1 : x.category = 1 := (h.1.cat hkv).trans (hc w List.mem_cons_self)
    obtain ⟨y, g1, g2, g3⟩ := lva_at hkv (i + 1) k v h.2 (fun w hw => hc w (List.mem_cons_of_mem _ hw)) (by simpa using e)
    refine ⟨y, ?_, g2, g3⟩
    unfold lv_args
    rw [if_neg (by omega), show i + (k + 1) = i + 1 + k by omega]
    exact List.mem_cons_of_mem _ g1
  | _ :: _, [], _, _, _, h, _, _ => h.elim
theorem LR.entry {q : Nat → Nat} {kv : Nat → Value} {n mx : Nat} {vs : List AV} {xs : List Value} (hkv : KV kv) (hv : VL q kv n vs xs) (hc : ∀ v ∈ vs, aCat v = 1) (hm : vs.length ≤ mx) : LR q kv n ((lg_sl xs ++ List.replicate (mx - (lg_sl xs).length) Slot.unset).toArray) mx (ent mx vs) none := by
  have hl := lg_len hkv hv hc
  refine ⟨lv_args 0 xs, lv_entry xs (by omega), fun k v hk hu => ?_, fun k x e => by cases e⟩
  unfold ent at hk
  by_cases hkl : k < vs.length
  · rw [List.getElem?_append_left hkl] at hk
    obtain ⟨x, g1, g2, g3⟩ := lva_at hkv 0 k v hv hc hk
    rw [Nat.zero_add] at g1
    exact ⟨x, g1, g2, g3⟩
  · rw [List.getElem?_append_right (by omega)] at hk
    have h9 := List.mem_of_getElem? hk
    rw [List.mem_replicate] at h9
    rw [h9.2] at hu
    cases hu
theorem va_P.keep {D : va_G} {cl : List vw_C} {ws : va_W} {H H1 : Heap} (h : va_P D cl ws H) (hq : ∀ q : Nat, q < H.size → H1[q]? = H[q]?) : va_P D cl ws H1 := fun k q hk => (h k q hk).kept (hq q.1 (h k q hk).lt)
/-- a method's contract out of its frames' soundness -/
theorem met_of {l : Launch} {sc : SC} {A : Nat → Prop} {D : va_G} {dA : Nat → ClassId} {kv : Nat → Value} {n y : Nat} {my : MI} {args : List AV} {h : AH} {r : Res} {q : Nat → Nat} {ws : va_W} {As : List Value} (hF : FrameS l sc A D dA kv n) (hl9 : l.stackTraces = false) (hy : MT y = some my) (hlt : y < 210)
    (he : ex sc n y 0 (ent (mL my) args) none [] h = some r) (hal : args.length = mNa my) (hcat : ∀ v ∈ args, aCat v = 1) (hWR : WR q kv dA h.1 ws) (hVL : VL q kv h.1.length args As) : MetM l sc A D dA kv my h r q ws As := by
  obtain ⟨mw, hmw, hmk⟩ := MK_at hy hlt
  have hmi : my ∈ MTl := List.mem_of_getElem? (show MTl[y]? = some my from hy)
  have hcost := ex_hle sc n _ _ _ _ _ _ _ he
  have body : ∀ (p : Program) (e : Env) (s : State) (m : MethodId) (args9 : Array Value) (below : List Frame) (meth : Method) (c : Code) (s₁ : State), BodyLoose p l (mY my) (headSpec [wM my] (rmM my h r.2)) (mB my) (mL my) (mRet my) e s m args9 below meth c s₁ → c.maxLocals = mL my → c.exceptionTable.toList = tableOf (mHH my) → PcM A D dA kv sc ws As args9 s →
      W p l e (headSpec [wM my] (rmM my h r.2)).room s m args9 below meth c s.heap [] 0 0 (vx_MQ below (QcM A D dA kv q h.1.length r) (XcM A D dA kv q h.1.length r) args9 s (costC r.2 - costC h) (costS r.2 - costS h) A) (entryFrame m args9 (mL my)) := by
    intro p e s m args9 below meth c s₁ B hml htab hP
    obtain ⟨rfl, hk, hK, hP, hD, hA⟩ := hP
    have hown : s.vm.findClass (mOwn my) = some m.cls := by
      have := findClass_of_methodNamed B.named
      rw [hmk.2.2.2.2.2.1] at this
      exact this
    have hex : ∃ es, RTl[mCn my]? = some (mOwn my, es) := by
      obtain ⟨q9, h1, h2⟩ := Option.map_eq_some_iff.mp hmk.2.2.2.2.1
      exact ⟨q9.2, by rw [h1, ← h2]⟩
    have hx : FX p s m meth c (headSpec [wM my] (rmM my h r.2)).room my := ⟨B.exec, B.bytes, hml, hown, B.returns, B.notSynchronized, Nat.le_refl _, Nat.le_refl _, fun _ => htab, fun h9 => (name_of_methodNamed B.named B.method).1.trans h9, hex⟩
    have hS : va_S A s.heap s.heap [] := va_S.rf
    rw [lg_entry_eq]
    have hHR : HR A D dA q kv s s.heap [] h.1 ws := ⟨hP, hK, hD, hS, hA, hWR⟩
    have hLR := LR.entry (mx := mL my) hk.1 hVL hcat (by rw [hal]; exact hmk.2.2.2.2.2.2.2.2.2.2.2)
    refine hF y my p e _ s m _ below meth c _ r (costC h) (costS h) h.1.length q hy hx hk ?_ ?_ ?_ ?_ ?_ 0 _ none [] h _ [] s.heap [] 0 0 q ws he (Nat.le_refl _) (fun _ _ => rfl) hHR hLR trivial (Nat.zero_add _) (Nat.zero_add _)
    · show costC r.2 ≤ costC h + (costC r.2 - costC h)
      omega
    · show costS r.2 ≤ costS h + (costS r.2 - costS h)
      omega
    · intro pc L dl st v h2 ls vs H locs cells slots q2 ws2 hst hr1 hq2 hr2 hv2 hc2 hs2
      have hsame := ret_same hst
      have hce : cells = costC r.2 - costC h := by rw [hsame]; omega
      have hse : slots = costS r.2 - costS h := by rw [hsame]; omega
      rw [← hce, ← hse]
      refine vx_ret (step_ret (n0 := 0) (q0 := q) (c0 := 0) (s0 := 0) hx hk.1 hst hr2 hv2 (fun x t ht hov _ => ⟨⟨v, x, q2, hr1, rfl, by rw [hsame]; exact hov, hq2, ws2, by rw [ht]; exact hr2.1, hr2.2.2.1, by rw [hsame]; exact hr2.2.2.2.2.2⟩, hr2.2.2.2.1.F ht⟩))
    · intro pc L dl st E h2 ls vs H locs cells slots q2 ws2 hst hr1 hq2 hr2 hls hv2 hc2 hs2
      have hsame := thr_same hst
      have e1 : costC r.2 = costC h2 + 1 := by rw [hsame]; show h2.1.length + (h2.2 + 1) = h2.1.length + h2.2 + 1; omega
      have e2 : costS r.2 = costS h2 + 6 := by rw [hsame]; show (h2.1.map osize).sum + 6 * (h2.2 + 1) = (h2.1.map osize).sum + 6 * h2.2 + 6; omega
      refine step_thr hx hk hl9 htab hst hr2 hls hv2 ⟨?_, ?_⟩ (by omega) (by omega) (fun nm nms t g1 g2 g3 g4 g5 => ⟨⟨E, nms, q2, hr1, g1, hq2, ws2, hr2.1.keep g5, hr2.2.2.1, ?_⟩, ?_⟩)
      · show cells + 1 ≤ costC r.2 - costC h
        omega
      · show slots + 6 ≤ costS r.2 - costS h
        omega
      · rw [hsame]
        exact hr2.2.2.2.2.2
      · obtain ⟨k1, k2, k3⟩ := hr2.2.2.2.1
        exact ⟨Nat.le_trans k1 g4, fun z h1 h2 => by rw [g5 z (Nat.lt_of_lt_of_le h1 k1)]; exact k2 z h1 h2⟩
    · intro pc E nm nms ce q9 ls rest H locs cells slots q2 ws2 hh hr1 hE hq2 hr2 hce hcv hcl hc2 hs2
      refine vx_outP hown B.notSynchronized (fun z hz => hnd_pass hx hk hE (mHH my) hh z (by rw [← htab]; exact hz)) hce hcv hcl (fun t ht _ => ⟨⟨E, nms, q2, hr1, hE, hq2, ws2, by rw [ht]; exact hr2.1, hr2.2.2.1, hr2.2.2.2.2.2⟩, hr2.2.2.2.1.F ht⟩) hr2.2.2.2.1.2.2 (by omega) (by omega)
  have hplain : plainName (mY my).cls = true := hmk.2.2.2.2.2.2.1
  by_cases hHH : mHH my = []
  · refine vx_ofW (cc := mB my) (maxL := mL my) (ret := mRet my) (ws' := []) hplain (by unfold wM; rw [if_pos hHH]) ?_
    intro p e s m args9 below meth c s₁ B hml htab hP
    refine body p e s m args9 below meth c s₁ B hml ?_ hP
    rw [hHH]
    exact List.eq_nil_iff_forall_not_mem.mpr (fun x hx => htab x hx)
  · have hcw : wM my = .codeWith (mY my) (mB my) (mL my) (mRet my) (mHH my) := by unfold wM; rw [if_neg hHH]
    refine vx_ofWH (cc := mB my) (maxL := mL my) (ret := mRet my) (hh := mHH my) (ws' := []) hplain (by rw [hcw]) ?_
    intro p e s m args9 below meth c s₁ B hml hP
    refine body p e s m args9 below meth c s₁ B hml ?_ hP
    have hw := atoms_spec (ws := [wM my]) B.pre (wM my) List.mem_cons_self
    rw [hcw] at hw
    exact vx_table (x := mY my) B hw
theorem frame_all {l : Launch} {sc : SC} {A : Nat → Prop} {D : va_G} {dA : Nat → ClassId} {kv : Nat → Value} (hl9 : l.stackTraces = false) : ∀ n, FrameS l sc A D dA kv n := by
  intro n
  induction n with
  | zero => intro k mi p e R s m args below meth c Q r c0 s0 n0 q0 _ _ _ _ _ _ _ _ pc L dl st h ls vs H locs cells slots q ws he; simp [ex] at he
  | succ n ih =>
    intro k mi p e R s m args below meth c Q r c0 s0 n0 q0 hm hx hk hRc hRs KR KT KX pc L dl st h ls vs H locs cells slots q ws he hn0 hq hr hl hv hc hs
    have hmi : mi ∈ MTl := List.mem_of_getElem? (show MTl[k]? = some mi from hm)
    have hcost := ex_hle sc _ _ _ _ _ _ _ _ he
    rw [ex] at he
    simp only [hm] at he
    cases hst : stp sc mi pc L dl st h with
    | none => simp [hst] at he
    | some a =>
      simp only [hst] at he
      have hle1 := stp_le hst
      rcases a with cf | rr | z | tt
      · have hc2 := ex_hle sc _ _ _ _ _ _ _ _ he
        refine step_go hmi hx hk hst ⟨Nat.le_trans hcost.1 hRc, Nat.le_trans hcost.2.1 hRs⟩ ⟨Nat.le_trans hc2.1 hRc, Nat.le_trans hc2.2.1 hRs⟩ hr hl hv hc hs ?_
        intro q' ws' ls' vs' H' locs' cells' slots' hq' hr' hl' hv' hc' hs'
        exact ih k mi p e R s m args below meth c Q r c0 s0 n0 q0 hm hx hk hRc hRs KR KT KX _ _ _ _ _ _ _ _ _ _ _ _ _ he (Nat.le_trans hn0 hle1.2.2) (fun j hj => (hq' j (Nat.lt_of_lt_of_le hj hn0)).trans (hq j hj)) hr' hl' hv' hc' hs'
      · obtain ⟨v, h'⟩ := rr
        simp only [Option.some.injEq] at he
        subst he
        exact KR pc L dl st v h ls vs H locs cells slots q ws hst rfl hq hr hv hc hs
      · obtain ⟨iv, idx, w, y, kd, ins, hd, hins, he2, hkd, hca⟩ := stp_call hst
        obtain ⟨my, hy, hna, hrk, h8, hcat, rfl, -, -⟩ := callA_sp hca
        simp only [hy] at he
        have hlt := y_lt hmi hy hrk
        cases hr1 : ex sc n y 0 (ent (mL my) (st.take (mNa my)).reverse) none [] h with
        | none => simp [hr1] at he
        | some r1 =>
          simp only [hr1] at he
          have hle2 := ex_hle sc _ _ _ _ _ _ _ _ hr1
          have hle3 : hle r1.2 r.2 := by
            obtain ⟨o, h1⟩ := r1
            cases o with
            | inl v => exact ex_hle sc _ _ _ _ _ _ _ _ he
            | inr E =>
              simp only at he
              split at he
              · split at he
                · simp only [Option.some.injEq] at he
                  rw [← he]
                  exact hle.rf _
                · exact ex_hle sc _ _ _ _ _ _ _ _ he
                · cases he
              · cases he
          have hrc := hle3.1
          have hrs := hle3.2.1
          have hroom : cells + (costC r1.2 - costC h) ≤ R.cells ∧ slots + (costS r1.2 - costS h) ≤ R.slots := by
            have := hle2.1
            have := hle2.2.1
            omega
          have hargs : (st.take (mNa my)).reverse.length = mNa my := by rw [List.length_reverse, List.length_take]; omega
          obtain ⟨As, Rs, hvR, hrun⟩ := run_call (my := my) (r1 := r1) (args := args) (l := l) (e := e) (below := below) hmi hx hk hd hins he2 hkd hca hy hr hv hl.size (fun As hAs => met_of ih hl9 hy hlt hr1 hargs (fun v hv9 => hcat v (List.mem_reverse.mp hv9)) hr.2.2.2.2.2 hAs) hroom
          have hcc : cells + (costC r1.2 - costC h) + c0 = costC r1.2 := by
            have := hle2.1
            omega
          have hss : slots + (costS r1.2 - costS h) + s0 = costS r1.2 := by
            have := hle2.2.1
            omega
          refine vx_cont hrun hr.2.2.2.1 ?_ ?_
          · intro v x q' ws' H1 locs1 hv1 hov hq' hP1 hD1 hW1 hS1
            obtain ⟨o, h1⟩ := r1
            have hv1 : o = .inl v := hv1
            subst hv1
            have hr' : HR A D dA q' kv s H1 locs1 h1.1 ws' := ⟨hP1, hr.2.1, hD1, hS1, hr.2.2.2.2.1, hW1⟩
            have hvR' : VL q' kv h1.1.length (st.drop (mNa my)) Rs := hvR.mono hle2.2.2 hq'
            have hvv : VL q' kv h1.1.length (v.toList ++ st.drop (mNa my)) (x.toList ++ Rs) := by
              cases v with
              | none =>
                cases x with
                | none => exact hvR'
                | some x => exact hov.elim
              | some v =>
                cases x with
                | none => exact hov.elim
                | some x => exact ⟨hov, hvR'⟩
            exact ih k mi p e R s m args below meth c Q r c0 s0 n0 q0 hm hx hk hRc hRs KR KT KX _ _ _ _ _ _ _ _ _ _ _ _ _ he (Nat.le_trans hn0 hle2.2.2) (fun j hj => (hq' j (Nat.lt_of_lt_of_le hj hn0)).trans (hq j hj)) hr' (hl.mono hle2.2.2 hq') hvv hcc hss
          · intro E nm nms ce q9 q' ws' H1 locs1 hv1 hE hq' hP1 hD1 hW1 hS1 hce hcv hcl
            obtain ⟨o, h1⟩ := r1
            have hv1 : o = .inr E := hv1
            subst hv1
            have hr' : HR A D dA q' kv s H1 locs1 h1.1 ws' := ⟨hP1, hr.2.1, hD1, hS1, hr.2.2.2.2.1, hW1⟩
            simp only at he
            split at he
            · split at he
              · rename_i hh
                simp only [Option.some.injEq] at he
                subst he
                exact KX pc E nm nms ce q9 ls Rs H1 locs1 _ _ q' ws' hh rfl hE (fun j hj => (hq' j (Nat.lt_of_lt_of_le hj hn0)).trans (hq j hj)) hr' hce hcv hcl hcc hss
              · rename_i i t hh
                obtain ⟨pre, x, suf, g1, g2, g3, g4, g5, g6, g7⟩ := hnd_take (args := args) hx hk hE (mHH mi) hh
                have hne : mHH mi ≠ [] := by
                  intro h9
                  rw [h9] at g1
                  simp [tableOf] at g1
                have htab := hx.2.2.2.2.2.2.2.2.1 hne
                have hcast : (Cond.castable nm nm).before args s = true := hk.word (List.all_eq_true.mp cas_ok (nm, nms) (List.mem_of_getElem? hE)) rfl args
                refine vx_catch hx.2.2.2.1 pre x suf (htab.trans g1) g2 g3 g4 g5 hcast hce hcv hcl ?_
                obtain ⟨lv, b1, b2, b3⟩ := hl.mono hle2.2.2 hq'
                have goal : ∀ ls' : Array Slot, lv_has ls' (mL mi) ((i, Value.ref q9) :: lv.filter (fun q => !(q.1 == i) && !(q.1 + 1 == i && q.2.category == 2))) → W p l e R s m args below meth c H1 locs1 (cells + (costC h1 - costC h)) (slots + (costS h1 - costS h)) Q (F0 m t ls' []) := by
                  intro ls' hls'
                  exact ih k mi p e R s m args below meth c Q r c0 s0 n0 q0 hm hx hk hRc hRs KR KT KX _ _ _ _ _ _ _ _ _ _ _ _ _ he (Nat.le_trans hn0 hle2.2.2) (fun j hj => (hq' j (Nat.lt_of_lt_of_le hj hn0)).trans (hq j hj)) hr' (LR.st (v := aU) (x := .ref q9) b2 b3 rfl (Or.inl rfl) hls') trivial hcc hss
                rcases g7 with ⟨k9, d1, rfl, rfl⟩ | ⟨d1, rfl⟩
                · exact lv_astore_n hx.1 hx.2.1 d1 rfl b1 g6 rfl goal
                · exact lv_astore hx.1 hx.2.1 d1 b1 g6 rfl goal
              · cases he
            · cases he
      · obtain ⟨E, h'⟩ := tt
        simp only [Option.some.injEq] at he
        subst he
        exact KT pc L dl st E h ls vs H locs cells slots q ws hst rfl hq hr hl.size hv hc hs
