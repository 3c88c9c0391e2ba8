/-! SOUNDNESS 12: calls -/
theorem VL.args {q : Nat → Nat} {kv : Nat → Value} {n na : Nat} {st : List AV} {vs : List Value} (hv : VL q kv n st vs) (hn : na ≤ st.length) : ∃ (As Rs : List Value), vs = As.reverse ++ Rs ∧ VL q kv n (st.take na).reverse As ∧ VL q kv n (st.drop na) Rs ∧ As.length = na := by
  have hl := hv.len
  refine ⟨(vs.take na).reverse, vs.drop na, ?_, (hv.take na).rev, hv.drop na, ?_⟩
  · rw [List.reverse_reverse, List.take_append_drop]
  · rw [List.length_reverse, List.length_take]
    omega
theorem callA_sp {sc : SC} {mi : MI} {y kd pc : Nat} {L : List AV} {dl : DL} {st : List AV} {h : AH} {z : Nat × Nat × List AV × Cfg} (e : callA sc mi y kd pc L dl st h = some (.inr (.inr (.inl z)))) :
    ∃ my, MT y = some my ∧ mNa my ≤ st.length ∧ mRk my < mRk mi ∧ aWt (st.drop (mNa my)) ≤ 8 ∧ (∀ v ∈ st.take (mNa my), aCat v = 1) ∧ z = (y, kd, (st.take (mNa my)).reverse, (pc + 3, L, dl, st.drop (mNa my), h)) ∧
      ((kd = 0 ∨ kd = 3 ∨ kd = 4) → ∃ v c fs, (st.take (mNa my)).reverse.head? = some v ∧ oget sc h v = some (oO c fs) ∧ c = mRci my) ∧ ((kd = 2 ∨ kd = 5) → ∃ v, (st.take (mNa my)).reverse.head? = some v ∧ aObj v = true) := by
  unfold callA at e
  split at e
  · rename_i my hy
    split at e
    · rename_i hc
      obtain ⟨h1, h2, h3, h4⟩ := hc
      have hcat : ∀ v ∈ st.take (mNa my), aCat v = 1 := fun v hv => by
        have := List.all_eq_true.mp h4 v hv
        exact beq_iff_eq.mp this
      split at e
      · rename_i hk
        split at e
        · rename_i v hv
          split at e
          · rename_i c fs ho
            split at e
            · rename_i hcc
              cases e
              exact ⟨my, hy, h1, h2, h3, hcat, rfl, fun _ => ⟨v, c, fs, by rw [List.head?_reverse]; exact hv, ho, hcc⟩, fun h => by omega⟩
            · cases e
          · cases e
        · cases e
      · rename_i hk
        split at e
        · rename_i hk2
          split at e
          · rename_i v hv
            split at e
            · rename_i ho
              cases e
              exact ⟨my, hy, h1, h2, h3, hcat, rfl, fun h => absurd h hk, fun _ => ⟨v, by rw [List.head?_reverse]; exact hv, ho⟩⟩
            · cases e
          · cases e
        · rename_i hk2
          cases e
          exact ⟨my, hy, h1, h2, h3, hcat, rfl, fun h => absurd h hk, fun h => absurd h hk2⟩
    · cases e
  · cases e
theorem rcn_vw {c : Nat} {r : vw_C} (h : vwCl[c]? = some r) : rcn c = r.1 := by
  have h1 := vw_lt h
  unfold rcn
  split
  · omega
  · omega
  · rw [h]
theorem VL.uncons {q : Nat → Nat} {kv : Nat → Value} {n : Nat} {vs : List AV} {As : List Value} {v : AV} (h : VL q kv n vs As) (hh : vs.head? = some v) : ∃ x Bs, As = x :: Bs ∧ Vr q kv n v x := by
  cases vs with
  | nil => cases hh
  | cons w r =>
    cases hh
    obtain ⟨x, xs, e, h1, -⟩ := h.cons
    exact ⟨x, xs, e, h1⟩
theorem ini_rci : MTl.all (fun mi => decide ((mY mi).name ≠ "<init>") || decide (mRci mi ≠ 999)) = true := by decide +kernel
section
variable {p : Program} {l : Launch} {e : Env} {R : Room} {s : State} {m : MethodId} {args : Array Value} {below : List Frame} {meth : Method} {c : Code} {Q : State → Prop}
variable {mi : MI} {sc : SC} {A : Nat → Prop} {D : va_G} {dA : Nat → ClassId} {kv : Nat → Value}
variable {pc : Nat} {L : List AV} {dl : DL} {st : List AV} {h : AH} {ls : Array Slot} {vs : List Value} {H : Heap} {locs : List Loc} {cells slots : Nat} {q : Nat → Nat} {ws : va_W}
/-- the receiver of a call -/
theorem recv_at {v : AV} {x : Value} {c9 : Nat} {fs : List AV} (hk : KC kv sc A s s.heap) (hr : HR A D dA q kv s H locs h.1 ws) (hv : Vr q kv h.1.length v x) (ho : oget sc h v = some (oO c9 fs)) : ∃ b, x = .ref b ∧ ∃ cellB : Cell, H[b]? = some cellB ∧ cellB.vm.isStatics = false ∧ s.vm.findClass (rcn c9) = some cellB.cls := by
  rcases v with i | pp | kc | u | i | i | i | u
  all_goals first | (simp [oget] at ho; done) | skip
  · obtain ⟨hp, rfl⟩ := hv
    obtain ⟨e9, hw, vs9, rfl, hvl, ⟨r9, hc9, hn9⟩, hm9⟩ := hr.obj (show hget h pp = some (oO c9 fs) from ho)
    obtain ⟨cell, g1, g2, g3⟩ := va_recv hr.2.1 hr.1 hc9 hw
    exact ⟨_, rfl, cell, g1, g2, by rw [rcn_vw hc9]; exact g3⟩
  · obtain ⟨hcc, a9, ha9, hO, hF⟩ := hk.2.2.1.2.1 kc c9 fs ho
    have hx : x = kv kc := hv
    obtain ⟨cell, g1, g2, g3⟩ := va_Orecv hO hr.2.2.2.1
    exact ⟨a9, by rw [hx, ha9], cell, g1, g2, g3⟩
theorem use_w (hk : KC kv sc A s s.heap) {i : Nat} {w : Cond} (h : lw_tb2[i]? = some w) (ho : okv w = true) : w.before args s = true := okw_use hk.2.2.2.1 (List.mem_of_getElem? h) ho args
theorem wM_warm (hk : KC kv sc A s s.heap) {my : MI} {mw : Nat × Nat × Nat × Nat} (hmk : MK my mw) : ∀ w ∈ [wM my], ∀ (a' : Array Value) (U : State), s.WarmedH U.vm → w.before a' U = true := by
  intro w hw a' U hW
  rw [List.mem_singleton] at hw
  subst hw
  obtain ⟨h1, h2, h3⟩ := hmk.wm
  exact word_at hW (good_of_word h3) (okw_use hk.2.2.2.1 h1 h2 #[])
theorem room_le {my : MI} {h1 : AH} {mw : Nat × Nat × Nat × Nat} (hx : FX p s m meth c R mi) (hmk : MK my mw) (hrk : mRk my < mRk mi) : (rmM my h h1).frames + 1 ≤ R.frames ∧ 8 + (mL my + 11) + (rmM my h h1).locals ≤ R.locals := by
  have g1 := hx.2.2.2.2.2.2.1
  have g2 := hx.2.2.2.2.2.2.2.1
  have g3 := hmk.2.2.2.2.2.2.2.1
  show mRk my + 10 + 1 ≤ R.frames ∧ 8 + (mL my + 11) + (45 * mRk my + 400) ≤ R.locals
  omega
theorem cbM {my : MI} {mw : Nat × Nat × Nat × Nat} {h1 : AH} {idx n : Nat} (hx : FX p s m meth c R mi) (hk : KC kv sc A s s.heap) (hmk : MK my mw) (hHH : mHH my = []) (hrk : mRk my < mRk mi) (hlink : (Cond.methodLink (mOwn mi) idx (mY my)).before args s = true) (hn : n + (if mRci my = 999 then 0 else 1) = mNa my) :
    CallB R s args (mOwn mi) idx (mY my) (mB my) (mL my) (mRet my) [wM my] (rmM my h h1) (costC h1 - costC h) (costS h1 - costS h) n := by
  obtain ⟨g1, g2⟩ := room_le (h := h) (h1 := h1) hx hmk hrk
  have hc : wM my = .code (mY my) (mB my) (mL my) (mRet my) := by unfold wM; rw [if_pos hHH]
  obtain ⟨m1, m2, m3⟩ := hmk.wm
  refine ⟨rfl, rfl, g1, g2, wM_warm hk hmk, by rw [hc]; exact List.mem_singleton_self _, ?_, use_w hk hmk.2.2.2.1 rfl, hmk.2.2.2.2.2.2.2.2.2.1, fun sig hs => ?_, hlink⟩
  · have := okw_use hk.2.2.2.1 m1 m2 args
    rw [hc] at this
    exact this
  · have := hmk.len sig hs
    omega
theorem fixM (hx : FX p s m meth c R mi) (hk : KC kv sc A s s.heap) : CallFix p m c (mB mi) (mL mi) s args TS (mOwn mi) := ⟨hx.1, hx.2.1, hx.2.2.1, hx.2.2.2.1, hk.hts args⟩
/-- what the tables say of an ordinary call -/
theorem ent_call {own : String} {idx y kd w : Nat} {my : MI} {mw : Nat × Nat × Nat × Nat} (he : eOK own (idx, 2, y, kd, w) = true) (hkd : kd = 0 ∨ kd = 1 ∨ kd = 2 ∨ kd = 4 ∨ kd = 6) (hy : MT y = some my) (hmw : MWl[y]? = some mw) : tables_1[w]? = some (.methodLink own idx (mY my)) ∧ eOK2 own kd my mw = true := by
  have hy2 : MTl[y]? = some my := hy
  have key : (match mlk own idx tables_1[w]?, MTl[y]?, MWl[y]? with | some y9, some mi, some mw => decide (y9 = mY mi) && eOK2 own kd mi mw | _, _, _ => false) = true := by
    rcases hkd with rfl | rfl | rfl | rfl | rfl <;> exact he
  rw [hy2, hmw] at key
  split at key
  · rename_i y9 mi9 mw9 e1 e2 e3
    cases e2
    cases e3
    simp only [Bool.and_eq_true, decide_eq_true_eq] at key
    obtain ⟨rfl, key⟩ := key
    exact ⟨mlk_sp e1, key⟩
  · cases key
theorem sum8 (hk : KC kv sc A s s.heap) {rest : List AV} {Rs : List Value} {n : Nat} (hv : VL q kv n rest Rs) (h8 : aWt rest ≤ 8) : 2 * (F0 m pc ls vs).monitorRoom + (Rs.map fun v => v.category).sum ≤ 8 := by
  have h0 : (F0 m pc ls vs).monitorRoom = 0 := rfl
  rw [h0, hv.wt hk.1]
  omega
theorem sup_ok : (true && lw_tbl.contains (.sameMethod "BranchSlotFiller$Kind" "java/lang/Enum" "ordinal" "()I") && lw_tbl.contains (.selects "BranchSlotFiller$Kind" ⟨"BranchSlotFiller$Kind", "ordinal", "()I"⟩ ⟨"java/lang/Enum", "ordinal", "()I"⟩)) = true := by decide +kernel
theorem run_call {ins : Instr} {iv idx w y kd : Nat} {my : MI} {z : Nat × Nat × List AV × Cfg} {r1 : Res} (hmi : mi ∈ MTl) (hx : FX p s m meth c R mi) (hk : KC kv sc A s s.heap) (hd : decode (mB mi) pc = .ok (ins, 3)) (hins : (iv = 0 ∧ ins = .invokevirtual idx) ∨ (iv = 1 ∧ ins = .invokespecial idx) ∨ (iv = 2 ∧ ins = .invokestatic idx))
    (he : rs (mCn mi) idx = some (2, y, kd, w)) (hkd : kOK iv kd = true) (hc : callA sc mi y kd pc L dl st h = some (.inr (.inr (.inl z)))) (hy : MT y = some my)
    (hr : HR A D dA q kv s H locs h.1 ws) (hv : VL q kv h.1.length st vs) (hl : ls.size = mL mi) (hM : ∀ As : List Value, VL q kv h.1.length z.2.2.1 As → MetM l sc A D dA kv my h r1 q ws As)
    (hroom : cells + (costC r1.2 - costC h) ≤ R.cells ∧ slots + (costS r1.2 - costS h) ≤ R.slots) :
    ∃ (As Rs : List Value), VL q kv h.1.length z.2.2.2.2.2.2.1 Rs ∧ vx_Run p l e R s m args below meth c H locs cells slots (costC r1.2 - costC h) (costS r1.2 - costS h) (F0 m pc ls vs) Rs (QcM A D dA kv q h.1.length r1 As.toArray) (XcM A D dA kv q h.1.length r1) A := by
  obtain ⟨my', hy', hn, hrk, h8, hcat, rfl, hrec, hobj⟩ := callA_sp hc
  cases hy.symm.trans hy'
  have hlt := y_lt hmi hy hrk
  obtain ⟨mw, hmw, hmk⟩ := MK_at hy hlt
  obtain ⟨x1, x2, x3, x4, x5, x6, x7, x8, x9, x10, es, x11⟩ := id hx
  have hent := ent_use ent_ok2 x11 he
  obtain ⟨As, Rs, rfl, hvA, hvR, hlen⟩ := hv.args hn
  have hM' := hM As hvA
  have hW8 : 2 * (F0 m pc ls (As.reverse ++ Rs)).monitorRoom + (Rs.map fun v => v.category).sum ≤ 8 := sum8 hk hvR h8
  have hpre := PcM_pre (As := As) hk hr
  have lnk : ∀ {i : Nat} {w : Cond}, tables_1[i]? = some w → okv w = true → w.before args s = true := fun h1 h2 => okw_use hk.2.2.2.1 (tb2_of h1) h2 args
  refine ⟨As, Rs, hvR, ?_⟩
  have cases7 : (iv = 0 ∧ kd = 0) ∨ (iv = 0 ∧ kd = 3) ∨ (iv = 1 ∧ kd = 2) ∨ (iv = 1 ∧ kd = 4) ∨ (iv = 1 ∧ kd = 5) ∨ (iv = 2 ∧ kd = 1) ∨ (iv = 2 ∧ kd = 6) := by
    unfold kOK at hkd
    split at hkd <;> first | (cases hkd; done) | simp
  rcases cases7 with ⟨rfl, rfl⟩ | ⟨rfl, rfl⟩ | ⟨rfl, rfl⟩ | ⟨rfl, rfl⟩ | ⟨rfl, rfl⟩ | ⟨rfl, rfl⟩ | ⟨rfl, rfl⟩
  · -- a method of the receiver's own class
    have hins2 : ins = .invokevirtual idx := by rcases hins with ⟨-, h1⟩ | ⟨h1, -⟩ | ⟨h1, -⟩ <;> first | exact h1 | cases h1
    subst hins2
    obtain ⟨hlk, h2⟩ := ent_call hent (Or.inl rfl) hy hmw
    simp only [eOK2, Bool.and_eq_true, decide_eq_true_eq] at h2
    obtain ⟨⟨⟨a1, a2⟩, a3⟩, a4⟩ := h2
    obtain ⟨v, c9, fs, hh, ho, rfl⟩ := hrec (Or.inl rfl)
    obtain ⟨x, Bs, rfl, hvx⟩ := hvA.uncons hh
    obtain ⟨b, rfl, hcell⟩ := recv_at hk hr hvx ho
    have hnB : Bs.length + (if mRci my = 999 then 0 else 1) = mNa my := by rw [if_neg a1]; simpa using hlen
    have hinst : (Cond.instanceMethod (mY my)).before args s = true := by
      have := use_w (args := args) hk hmk.2.1 (by rw [if_neg a1]; rfl)
      rw [if_neg a1] at this
      exact this
    have hsel : (Cond.selects (rcn (mRci my)) (mY my) (mY my)).before args s = true := use_w hk (((hmk.2.2.1.resolve_left a1).resolve_left a2).resolve_left a3) rfl
    exact vx_runV (As := Bs) (rest := Rs) (b := b) (fixM hx hk) hM' ⟨cbM hx hk hmk a4 hrk (lnk hlk rfl) hnB, hinst, hsel⟩ ⟨PcM_blind, hcell, hpre⟩ rfl rfl hl (by simp) hW8 hd hroom
  · -- ordinal
    have hins2 : ins = .invokevirtual idx := by rcases hins with ⟨-, h1⟩ | ⟨h1, -⟩ | ⟨h1, -⟩ <;> first | exact h1 | cases h1
    subst hins2
    have key : (match tables_1[w]?, MTl[y]? with | some (.methodLink o i' y), some mi9 => o == mOwn mi && i' == idx && decide (y = ⟨"BranchSlotFiller$Kind", "ordinal", "()I"⟩) && decide (mY mi9 = ⟨"java/lang/Enum", "ordinal", "()I"⟩) && decide (mRci mi9 = 100) && decide (mNa mi9 = 1) && decide (mHH mi9 = []) | _, _ => false) = true := hent
    rw [show MTl[y]? = some my from hy] at key
    split at key
    · rename_i o i' y9 mi9 e1 e2
      cases e2
      simp only [Bool.and_eq_true, beq_iff_eq, decide_eq_true_eq] at key
      obtain ⟨⟨⟨⟨⟨⟨rfl, rfl⟩, rfl⟩, a2⟩, a3⟩, a4⟩, a5⟩ := key
      obtain ⟨v, c9, fs, hh, ho, rfl⟩ := hrec (Or.inr (Or.inl rfl))
      obtain ⟨x, Bs, rfl, hvx⟩ := hvA.uncons hh
      obtain ⟨b, rfl, hcell⟩ := recv_at hk hr hvx ho
      have a1 : mRci my ≠ 999 := by omega
      have hB0 : Bs.length = 0 := by
        simp at hlen
        omega
      obtain ⟨g1, g2⟩ := room_le (h := h) (h1 := r1.2) hx hmk hrk
      have hcw : wM my = .code (mY my) (mB my) (mL my) (mRet my) := by unfold wM; rw [if_pos a5]
      obtain ⟨m1, m2, m3⟩ := hmk.wm
      have hcode : (Cond.code (mY my) (mB my) (mL my) (mRet my)).before args s = true := by
        have := okw_use hk.2.2.2.1 m1 m2 args
        rw [hcw] at this
        exact this
      have hinst : (Cond.instanceMethod (mY my)).before args s = true := by
        have := use_w (args := args) hk hmk.2.1 (by rw [if_neg a1]; rfl)
        rw [if_neg a1] at this
        exact this
      have hsup := sup_ok
      simp only [Bool.and_eq_true] at hsup
      have hsm := hk.word hsup.1.2 rfl args
      have hse := hk.word hsup.2 rfl args
      have hdesc := hmk.len
      rw [if_neg a1, a4, a2] at hdesc
      rw [a3] at hcell
      refine vx_runU (C := "BranchSlotFiller$Kind") (owner := "java/lang/Enum") (x := ⟨"BranchSlotFiller$Kind", "ordinal", "()I"⟩) (n := 0) (bytes := mB my) (maxL := mL my) (ret := mRet my) (As := Bs) (rest := Rs) (b := b) (fixM hx hk) hM' ⟨⟨rfl, rfl, g1, g2, wM_warm hk hmk, by rw [hcw]; exact List.mem_singleton_self _⟩, hcode, use_w hk hmk.2.2.2.1 rfl, ⟨by decide, by decide⟩, fun sig hs => ?_, lnk e1 rfl, hsm, ?_, ?_, hinst⟩ ⟨PcM_blind, hcell, hpre⟩ rfl hB0 hl (by simp) hW8 hd hroom
      · have := hdesc sig hs
        omega
      · rw [a2] at hinst hcode
        exact va_Decl.of hinst hcode
      · rw [a2]
        exact hse
    · cases key
  · -- a constructor
    have hins2 : ins = .invokespecial idx := by rcases hins with ⟨h1, -⟩ | ⟨-, h1⟩ | ⟨h1, -⟩ <;> first | exact h1 | cases h1
    subst hins2
    obtain ⟨hlk, h2⟩ := ent_call hent (Or.inr (Or.inr (Or.inl rfl))) hy hmw
    simp only [eOK2, Bool.and_eq_true, decide_eq_true_eq] at h2
    obtain ⟨⟨⟨a1, a2⟩, a3⟩, a4⟩ := h2
    obtain ⟨v, hh, ho⟩ := hobj (Or.inl rfl)
    obtain ⟨x, Bs, rfl, hvx⟩ := hvA.uncons hh
    obtain ⟨b, rfl⟩ := hvx.obj hk.1 ho
    have hnB : Bs.length + (if mRci my = 999 then 0 else 1) = mNa my := by rw [if_neg a4]; simpa using hlen
    have hinst : (Cond.instanceMethod (mY my)).before args s = true := by
      have := use_w (args := args) hk hmk.2.1 (by rw [if_neg a4]; rfl)
      rw [if_neg a4] at this
      exact this
    have hcb := cbM (h := h) (h1 := r1.2) (idx := idx) hx hk hmk a3 hrk (lnk hlk rfl) hnB
    rw [a2] at hcb
    exact vx_runI (As := Bs) (rest := Rs) (b := b) (fixM hx hk) hM' ⟨hcb, a1, hinst⟩ ⟨PcM_blind, hpre⟩ rfl rfl hl (by simp) hW8 hd hroom
  · -- super.m: the class has none
    have hins2 : ins = .invokespecial idx := by rcases hins with ⟨h1, -⟩ | ⟨-, h1⟩ | ⟨h1, -⟩ <;> first | exact h1 | cases h1
    subst hins2
    obtain ⟨hlk, h2⟩ := ent_call hent (Or.inr (Or.inr (Or.inr (Or.inl rfl)))) hy hmw
    exact absurd (show false = true from h2) Bool.false_ne_true
  · -- a nest mate's constructor
    have hins2 : ins = .invokespecial idx := by rcases hins with ⟨h1, -⟩ | ⟨-, h1⟩ | ⟨h1, -⟩ <;> first | exact h1 | cases h1
    subst hins2
    have key : (match tables_1[w]?, MTl[y]? with | some (.methodLinkNest o i' y _), some mi9 => o == mOwn mi && i' == idx && decide (y = mY mi9) && decide (y.name = "<init>") && decide (mRet mi9 = none) && decide (mHH mi9 = []) | _, _ => false) = true := hent
    rw [show MTl[y]? = some my from hy] at key
    split at key
    · rename_i o i' y9 host mi9 e1 e2
      cases e2
      simp only [Bool.and_eq_true, beq_iff_eq, decide_eq_true_eq] at key
      obtain ⟨⟨⟨⟨⟨rfl, rfl⟩, rfl⟩, a1⟩, a2⟩, a3⟩ := key
      obtain ⟨v, hh, ho⟩ := hobj (Or.inr rfl)
      obtain ⟨x, Bs, rfl, hvx⟩ := hvA.uncons hh
      obtain ⟨b, rfl⟩ := hvx.obj hk.1 ho
      have a4 : mRci my ≠ 999 := by
        intro h9
        have := List.all_eq_true.mp ini_rci my (List.mem_of_getElem? (show MTl[y]? = some my from hy))
        simp only [Bool.or_eq_true, decide_eq_true_eq] at this
        rcases this with h7 | h7
        · exact h7 a1
        · exact h7 h9
      have hnB : Bs.length + 1 = mNa my := by simpa using hlen
      obtain ⟨g1, g2⟩ := room_le (h := h) (h1 := r1.2) hx hmk hrk
      have hcw : wM my = .code (mY my) (mB my) (mL my) (mRet my) := by unfold wM; rw [if_pos a3]
      obtain ⟨m1, m2, m3⟩ := hmk.wm
      have hcode : (Cond.code (mY my) (mB my) (mL my) none).before args s = true := by
        have := okw_use hk.2.2.2.1 m1 m2 args
        rw [hcw, a2] at this
        exact this
      have hinst : (Cond.instanceMethod (mY my)).before args s = true := by
        have := use_w (args := args) hk hmk.2.1 (by rw [if_neg a4]; rfl)
        rw [if_neg a4] at this
        exact this
      exact vx_runIN (n := Bs.length) (bytes := mB my) (maxL := mL my) (host := host) (As := Bs) (rest := Rs) (b := b) (fixM hx hk) hM' ⟨⟨⟨rfl, rfl, g1, g2, wM_warm hk hmk, by rw [hcw, a2]; exact List.mem_singleton_self _⟩, hcode, use_w hk hmk.2.2.2.1 rfl, hmk.2.2.2.2.2.2.2.2.2.1, fun sig hs => by
        have := hmk.len sig hs
        rw [if_neg a4] at this
        omega, lnk e1 rfl⟩, a1, hinst⟩ ⟨PcM_blind, hpre⟩ rfl rfl hl (by simp) hW8 hd hroom
    · cases key
  · -- a static method
    have hins2 : ins = .invokestatic idx := by rcases hins with ⟨h1, -⟩ | ⟨h1, -⟩ | ⟨-, h1⟩ <;> first | exact h1 | cases h1
    subst hins2
    obtain ⟨hlk, h2⟩ := ent_call hent (Or.inr (Or.inl rfl)) hy hmw
    simp only [eOK2, Bool.and_eq_true, decide_eq_true_eq] at h2
    obtain ⟨a1, a2⟩ := h2
    have hnA : As.length + (if mRci my = 999 then 0 else 1) = mNa my := by rw [if_pos a1]; simpa using hlen
    have hstat : (Cond.static (mY my)).before args s = true := by
      have := use_w (args := args) hk hmk.2.1 (by rw [if_pos a1]; rfl)
      rw [if_pos a1] at this
      exact this
    exact vx_runS (As := As) (rest := Rs) (fixM hx hk) hM' ⟨cbM hx hk hmk a2 hrk (lnk hlk rfl) hnA, hstat⟩ ⟨PcM_blind, hpre⟩ rfl rfl hl rfl hW8 hd hroom
  · -- a static method with a table of its own
    have hins2 : ins = .invokestatic idx := by rcases hins with ⟨h1, -⟩ | ⟨h1, -⟩ | ⟨-, h1⟩ <;> first | exact h1 | cases h1
    subst hins2
    obtain ⟨hlk, h2⟩ := ent_call hent (Or.inr (Or.inr (Or.inr (Or.inr rfl)))) hy hmw
    simp only [eOK2, Bool.and_eq_true, decide_eq_true_eq, ne_eq] at h2
    obtain ⟨a1, a2⟩ := h2
    obtain ⟨g1, g2⟩ := room_le (h := h) (h1 := r1.2) hx hmk hrk
    have hcw : wM my = .codeWith (mY my) (mB my) (mL my) (mRet my) (mHH my) := by unfold wM; rw [if_neg a2]
    obtain ⟨m1, m2, m3⟩ := hmk.wm
    have hcode : (Cond.codeWith (mY my) (mB my) (mL my) (mRet my) (mHH my)).before args s = true := by
      have := okw_use hk.2.2.2.1 m1 m2 args
      rw [hcw] at this
      exact this
    have hstat : (Cond.static (mY my)).before args s = true := by
      have := use_w (args := args) hk hmk.2.1 (by rw [if_pos a1]; rfl)
      rw [if_pos a1] at this
      exact this
    exact vx_runSX (n := As.length) (As := As) (rest := Rs) (fixM hx hk) hM' ⟨⟨rfl, rfl, g1, g2, wM_warm hk hmk, by rw [hcw]; exact List.mem_singleton_self _⟩, hcode, use_w hk hmk.2.2.2.1 rfl, hmk.2.2.2.2.2.2.2.2.2.1, fun sig hs => by
      have := hmk.len sig hs
      rw [if_pos a1] at this
      omega, lnk hlk rfl, hstat⟩ ⟨PcM_blind, hpre⟩ rfl rfl hl rfl hW8 hd hroom
end
