/-! SOUNDNESS 4: the steps that touch no object -/
/-- what holds of a frame of the method mi -/
def FX (p : Program) (s : State) (m : MethodId) (meth : Method) (c : Code) (R : Room) (mi : MI) : Prop :=
  p.tables.exec = Jvm.exec ∧ c.code = mB mi ∧ c.maxLocals = mL mi ∧ s.vm.findClass (mOwn mi) = some m.cls ∧ meth.sig.returnType = mRet mi ∧ meth.locks = false ∧ mRk mi + 10 ≤ R.frames ∧ 45 * mRk mi + 400 ≤ R.locals ∧ (mHH mi ≠ [] → c.exceptionTable.toList = tableOf (mHH mi)) ∧ ((mY mi).name = "<init>" → meth.name = "<init>") ∧ ∃ es, RTl[mCn mi]? = some (mOwn mi, es)
/-- the heap and the world of objects -/
def HR (A : Nat → Prop) (D : va_G) (dA : Nat → ClassId) (q : Nat → Nat) (kv : Nat → Value) (s : State) (H : Heap) (locs : List Loc) (h : List AO) (ws : va_W) : Prop :=
  va_P D vwCl ws H ∧ va_K D vwCl (tysOf dA) s ∧ va_D A ws ∧ va_S A s.heap H locs ∧ (∀ a, s.heap.size ≤ a → A a) ∧ WR q kv dA h ws
section
variable {p : Program} {l : Launch} {e : Env} {R : Room} {s : State} {m : MethodId} {args : Array Value} {below : List Frame} {meth : Method} {c : Code} {Q : State → Prop}
variable {mi : MI} {sc : SC} {A : Nat → Prop} {D : va_G} {dA : Nat → ClassId} {kv : Nat → Value} {c0 s0 : Nat}
/-- the walk goes on from this configuration -/
def KK (p : Program) (l : Launch) (e : Env) (R : Room) (s : State) (m : MethodId) (args : Array Value) (below : List Frame) (meth : Method) (c : Code) (Q : State → Prop) (mi : MI) (A : Nat → Prop) (D : va_G) (dA : Nat → ClassId) (kv : Nat → Value) (c0 s0 n : Nat) (q : Nat → Nat) (cf : Cfg) : Prop :=
  ∀ (q' : Nat → Nat) (ws' : va_W) (ls' : Array Slot) (vs' : List Value) (H' : Heap) (locs' : List Loc) (cells' slots' : Nat), (∀ k, k < n → q' k = q k) → HR A D dA q' kv s H' locs' cf.2.2.2.2.1 ws' → LR q' kv cf.2.2.2.2.1.length ls' (mL mi) cf.2.1 cf.2.2.1 → VL q' kv cf.2.2.2.2.1.length cf.2.2.2.1 vs' → cells' + c0 = costC cf.2.2.2.2 → slots' + s0 = costS cf.2.2.2.2 → W p l e R s m args below meth c H' locs' cells' slots' Q (F0 m cf.1 ls' vs')
variable {pc : Nat} {L : List AV} {dl : DL} {st : List AV} {h : AH} {ls : Array Slot} {vs : List Value} {H : Heap} {locs : List Loc} {cells slots : Nat} {q : Nat → Nat} {ws : va_W} {cf : Cfg}
abbrev Wt (p : Program) (l : Launch) (e : Env) (R : Room) (s : State) (m : MethodId) (args : Array Value) (below : List Frame) (meth : Method) (c : Code) (Q : State → Prop) (H : Heap) (locs : List Loc) (cells slots : Nat) (g : JFrame) : Prop := W p l e R s m args below meth c H locs cells slots Q g
theorem kk0 {pc' : Nat} {L' : List AV} {dl' : DL} {st' : List AV} {ls' : Array Slot} {vs' : List Value} (kk : KK p l e R s m args below meth c Q mi A D dA kv c0 s0 h.1.length q (pc', L', dl', st', h)) (hr : HR A D dA q kv s H locs h.1 ws) (hc : cells + c0 = costC h) (hs : slots + s0 = costS h)
    (hl : LR q kv h.1.length ls' (mL mi) L' dl') (hv : VL q kv h.1.length st' vs') : W p l e R s m args below meth c H locs cells slots Q (F0 m pc' ls' vs') := kk q ws ls' vs' H locs cells slots (fun _ _ => rfl) hr hl hv hc hs
/-- a push of a number -/
theorem go_inj {pc' : Nat} {L' : List AV} {dl' : DL} {st' : List AV} {h' : AH} {cf : Cfg} (h : go pc' L' dl' st' h' = some (.inl cf)) : cf = (pc', L', dl', st', h') := by
  unfold go at h
  exact (Sum.inl.inj (Option.some.inj h)).symm
theorem w_nl {k n : Nat} (hst : nl L k n pc dl st h = some (.inl cf)) (hr : HR A D dA q kv s H locs h.1 ws) (hl : LR q kv h.1.length ls (mL mi) L dl) (hv : VL q kv h.1.length st vs) (hc : cells + c0 = costC h) (hs : slots + s0 = costS h) (kk : KK p l e R s m args below meth c Q mi A D dA kv c0 s0 h.1.length q cf)
    (row : ∀ x : Int32, ls[k]? = some (.val (.int x)) → W p l e R s m args below meth c H locs cells slots Q (F0 m (pc + n) ls (.int x :: vs)) → W p l e R s m args below meth c H locs cells slots Q (F0 m pc ls vs)) : W p l e R s m args below meth c H locs cells slots Q (F0 m pc ls vs) := by
  unfold nl at hst
  split at hst
  · rename_i x hx
    cases go_inj hst
    obtain ⟨y, h1, h2⟩ := hl.get hx rfl
    have h3 : y = .int x := h2
    subst h3
    exact row x h1 (kk0 kk hr hc hs hl ⟨rfl, hv⟩)
  · cases hst
theorem w_al {k n : Nat} (hkv : KV kv) (hst : al L k n pc dl st h = some (.inl cf)) (hr : HR A D dA q kv s H locs h.1 ws) (hl : LR q kv h.1.length ls (mL mi) L dl) (hv : VL q kv h.1.length st vs) (hc : cells + c0 = costC h) (hs : slots + s0 = costS h) (kk : KK p l e R s m args below meth c Q mi A D dA kv c0 s0 h.1.length q cf)
    (row : ∀ x : Nat, ls[k]? = some (.val (.ref x)) → W p l e R s m args below meth c H locs cells slots Q (F0 m (pc + n) ls (.ref x :: vs)) → W p l e R s m args below meth c H locs cells slots Q (F0 m pc ls vs)) : W p l e R s m args below meth c H locs cells slots Q (F0 m pc ls vs) := by
  unfold al at hst
  split at hst
  · rename_i v hx
    split at hst
    · rename_i ho
      cases go_inj hst
      have hu : aUnk v = false := by
        rcases v with i | p | k | u | i | i | i | u <;> first | rfl | (simp [aObj] at ho; done)
      obtain ⟨y, h1, h2⟩ := hl.get hx hu
      obtain ⟨a, rfl⟩ := h2.obj hkv ho
      exact row a h1 (kk0 kk hr hc hs hl ⟨h2, hv⟩)
    · cases hst
  · cases hst
theorem w_fl {k n : Nat} (hst : fl L k n pc dl st h = some (.inl cf)) (hr : HR A D dA q kv s H locs h.1 ws) (hl : LR q kv h.1.length ls (mL mi) L dl) (hv : VL q kv h.1.length st vs) (hc : cells + c0 = costC h) (hs : slots + s0 = costS h) (kk : KK p l e R s m args below meth c Q mi A D dA kv c0 s0 h.1.length q cf)
    (row : ∀ x : UInt32, ls[k]? = some (.val (.float x)) → W p l e R s m args below meth c H locs cells slots Q (F0 m (pc + n) ls (.float x :: vs)) → W p l e R s m args below meth c H locs cells slots Q (F0 m pc ls vs)) : W p l e R s m args below meth c H locs cells slots Q (F0 m pc ls vs) := by
  unfold fl at hst
  split at hst
  · rename_i x hx
    cases go_inj hst
    obtain ⟨y, h1, h2⟩ := hl.get hx rfl
    have h3 : y = .float x := h2
    subst h3
    exact row x h1 (kk0 kk hr hc hs hl ⟨rfl, hv⟩)
  · cases hst
theorem w_el {k n : Nat} (hst : el L k n pc dl st h = some (.inl cf)) (hr : HR A D dA q kv s H locs h.1 ws) (hl : LR q kv h.1.length ls (mL mi) L dl) (hv : VL q kv h.1.length st vs) (hc : cells + c0 = costC h) (hs : slots + s0 = costS h) (kk : KK p l e R s m args below meth c Q mi A D dA kv c0 s0 h.1.length q cf)
    (row : ∀ x : UInt64, ls[k]? = some (.val (.double x)) → W p l e R s m args below meth c H locs cells slots Q (F0 m (pc + n) ls (.double x :: vs)) → W p l e R s m args below meth c H locs cells slots Q (F0 m pc ls vs)) : W p l e R s m args below meth c H locs cells slots Q (F0 m pc ls vs) := by
  unfold el at hst
  split at hst
  · rename_i i x
    split at hst
    · rename_i hik
      subst hik
      cases go_inj hst
      exact row x hl.getE (kk0 kk hr hc hs hl ⟨rfl, hv⟩)
    · cases hst
  · cases hst
theorem w_ns {k n : Nat} (hst : ns (mL mi) L k n pc dl st h = some (.inl cf)) (hr : HR A D dA q kv s H locs h.1 ws) (hl : LR q kv h.1.length ls (mL mi) L dl) (hv : VL q kv h.1.length st vs) (hc : cells + c0 = costC h) (hs : slots + s0 = costS h) (kk : KK p l e R s m args below meth c Q mi A D dA kv c0 s0 h.1.length q cf)
    (row : ∀ (x : Int32) (rest : List Value) (lv : List (Nat × Value)), lv_has ls (mL mi) lv → k < mL mi → (∀ ls', lv_has ls' (mL mi) ((k, Value.int x) :: lv.filter (fun q => !(q.1 == k) && !(q.1 + 1 == k && q.2.category == 2))) → W p l e R s m args below meth c H locs cells slots Q (F0 m (pc + n) ls' rest)) → W p l e R s m args below meth c H locs cells slots Q (F0 m pc ls (.int x :: rest))) : W p l e R s m args below meth c H locs cells slots Q (F0 m pc ls vs) := by
  unfold ns at hst
  split at hst
  · rename_i x r
    split at hst
    · rename_i hk
      cases go_inj hst
      obtain ⟨xs, rfl, hv9⟩ := hv.I
      obtain ⟨lv, g1, g2, g3⟩ := hl
      exact row x xs lv g1 hk (fun ls' h' => kk0 kk hr hc hs (LR.st (v := .inl x) g2 g3 rfl (Or.inr rfl) h') hv9)
    · cases hst
  · cases hst
theorem w_as {k n : Nat} (hkv : KV kv) (hst : as' (mL mi) L k n pc dl st h = some (.inl cf)) (hr : HR A D dA q kv s H locs h.1 ws) (hl : LR q kv h.1.length ls (mL mi) L dl) (hv : VL q kv h.1.length st vs) (hc : cells + c0 = costC h) (hs : slots + s0 = costS h) (kk : KK p l e R s m args below meth c Q mi A D dA kv c0 s0 h.1.length q cf)
    (row : ∀ (x : Nat) (rest : List Value) (lv : List (Nat × Value)), lv_has ls (mL mi) lv → k < mL mi → (∀ ls', lv_has ls' (mL mi) ((k, Value.ref x) :: lv.filter (fun q => !(q.1 == k) && !(q.1 + 1 == k && q.2.category == 2))) → W p l e R s m args below meth c H locs cells slots Q (F0 m (pc + n) ls' rest)) → W p l e R s m args below meth c H locs cells slots Q (F0 m pc ls (.ref x :: rest))) : W p l e R s m args below meth c H locs cells slots Q (F0 m pc ls vs) := by
  unfold as' at hst
  split at hst
  · rename_i v r
    split at hst
    · rename_i hk
      cases go_inj hst
      obtain ⟨a, xs, rfl, hv1, hv9⟩ := hv.obj hkv hk.1
      obtain ⟨lv, g1, g2, g3⟩ := hl
      exact row a xs lv g1 hk.2 (fun ls' h' => kk0 kk hr hc hs (LR.st (v := v) g2 g3 rfl (Or.inr hv1) h') hv9)
    · cases hst
  · cases hst
theorem w_fs {k n : Nat} (hst : fs' (mL mi) L k n pc dl st h = some (.inl cf)) (hr : HR A D dA q kv s H locs h.1 ws) (hl : LR q kv h.1.length ls (mL mi) L dl) (hv : VL q kv h.1.length st vs) (hc : cells + c0 = costC h) (hs : slots + s0 = costS h) (kk : KK p l e R s m args below meth c Q mi A D dA kv c0 s0 h.1.length q cf)
    (row : ∀ (x : UInt32) (rest : List Value) (lv : List (Nat × Value)), lv_has ls (mL mi) lv → k < mL mi → (∀ ls', lv_has ls' (mL mi) ((k, Value.float x) :: lv.filter (fun q => !(q.1 == k) && !(q.1 + 1 == k && q.2.category == 2))) → W p l e R s m args below meth c H locs cells slots Q (F0 m (pc + n) ls' rest)) → W p l e R s m args below meth c H locs cells slots Q (F0 m pc ls (.float x :: rest))) : W p l e R s m args below meth c H locs cells slots Q (F0 m pc ls vs) := by
  unfold fs' at hst
  split at hst
  · rename_i x r
    split at hst
    · rename_i hk
      cases go_inj hst
      obtain ⟨xs, rfl, hv9⟩ := hv.F
      obtain ⟨lv, g1, g2, g3⟩ := hl
      exact row x xs lv g1 hk (fun ls' h' => kk0 kk hr hc hs (LR.st (v := aF x) g2 g3 rfl (Or.inr rfl) h') hv9)
    · cases hst
  · cases hst
theorem w_es {k n : Nat} (hst : es (mL mi) L k n pc st h = some (.inl cf)) (hr : HR A D dA q kv s H locs h.1 ws) (hl : LR q kv h.1.length ls (mL mi) L dl) (hv : VL q kv h.1.length st vs) (hc : cells + c0 = costC h) (hs : slots + s0 = costS h) (kk : KK p l e R s m args below meth c Q mi A D dA kv c0 s0 h.1.length q cf)
    (row : ∀ (x : UInt64) (rest : List Value) (lv : List (Nat × Value)), lv_has ls (mL mi) lv → k + 1 < mL mi → (∀ ls', lv_has ls' (mL mi) ((k, Value.double x) :: lv.filter (fun q => !(q.1 == k) && (!(q.1 == k + 1) && !(q.1 + 1 == k && q.2.category == 2)))) → W p l e R s m args below meth c H locs cells slots Q (F0 m (pc + n) ls' rest)) → W p l e R s m args below meth c H locs cells slots Q (F0 m pc ls (.double x :: rest))) : W p l e R s m args below meth c H locs cells slots Q (F0 m pc ls vs) := by
  unfold es at hst
  split at hst
  · rename_i x r
    split at hst
    · rename_i hk
      cases go_inj hst
      obtain ⟨xs, rfl, hv9⟩ := hv.E
      obtain ⟨lv, g1, g2, g3⟩ := hl
      exact row x xs lv g1 hk (fun ls' h' => kk0 kk hr hc hs (LR.stE g2 h') hv9)
    · cases hst
  · cases hst
theorem w_bin {f : Int32 → Int32 → Int32} (hst : bin f pc L dl st h = some (.inl cf)) (hr : HR A D dA q kv s H locs h.1 ws) (hl : LR q kv h.1.length ls (mL mi) L dl) (hv : VL q kv h.1.length st vs) (hc : cells + c0 = costC h) (hs : slots + s0 = costS h) (kk : KK p l e R s m args below meth c Q mi A D dA kv c0 s0 h.1.length q cf)
    (row : ∀ (x y : Int32) (rest : List Value), W p l e R s m args below meth c H locs cells slots Q (F0 m (pc + 1) ls (.int (f x y) :: rest)) → W p l e R s m args below meth c H locs cells slots Q (F0 m pc ls (.int y :: .int x :: rest))) : W p l e R s m args below meth c H locs cells slots Q (F0 m pc ls vs) := by
  unfold bin at hst
  split at hst
  · rename_i y x r
    cases go_inj hst
    obtain ⟨xs1, rfl, hv1⟩ := hv.I
    obtain ⟨xs, rfl, hv2⟩ := hv1.I
    exact row x y xs (kk0 kk hr hc hs hl ⟨rfl, hv2⟩)
  · cases hst
theorem w_una {f : Int32 → AV} {g : Int32 → Value} (hfg : ∀ x, Vr q kv h.1.length (f x) (g x)) (hst : una f pc L dl st h = some (.inl cf)) (hr : HR A D dA q kv s H locs h.1 ws) (hl : LR q kv h.1.length ls (mL mi) L dl) (hv : VL q kv h.1.length st vs) (hc : cells + c0 = costC h) (hs : slots + s0 = costS h) (kk : KK p l e R s m args below meth c Q mi A D dA kv c0 s0 h.1.length q cf)
    (row : ∀ (x : Int32) (rest : List Value), W p l e R s m args below meth c H locs cells slots Q (F0 m (pc + 1) ls (g x :: rest)) → W p l e R s m args below meth c H locs cells slots Q (F0 m pc ls (.int x :: rest))) : W p l e R s m args below meth c H locs cells slots Q (F0 m pc ls vs) := by
  unfold una at hst
  split at hst
  · rename_i x r
    cases go_inj hst
    obtain ⟨xs, rfl, hv9⟩ := hv.I
    exact row x xs (kk0 kk hr hc hs hl ⟨hfg x, hv9⟩)
  · cases hst
theorem w_icmp {P : Int32 → Int32 → Prop} [∀ x y, Decidable (P x y)] {off : Int} (hst : icmp P pc off L dl st h = some (.inl cf)) (hr : HR A D dA q kv s H locs h.1 ws) (hl : LR q kv h.1.length ls (mL mi) L dl) (hv : VL q kv h.1.length st vs) (hc : cells + c0 = costC h) (hs : slots + s0 = costS h) (kk : KK p l e R s m args below meth c Q mi A D dA kv c0 s0 h.1.length q cf)
    (row : ∀ (x y : Int32) (rest : List Value) (t : Nat), (pc : Int) + off = (t : Int) → (P x y → W p l e R s m args below meth c H locs cells slots Q (F0 m t ls rest)) → (¬ P x y → W p l e R s m args below meth c H locs cells slots Q (F0 m (pc + 3) ls rest)) → W p l e R s m args below meth c H locs cells slots Q (F0 m pc ls (.int y :: .int x :: rest))) : W p l e R s m args below meth c H locs cells slots Q (F0 m pc ls vs) := by
  unfold icmp at hst
  split at hst
  · rename_i y x r t ht
    cases go_inj hst
    obtain ⟨xs1, rfl, hv1⟩ := hv.I
    obtain ⟨xs, rfl, hv2⟩ := hv1.I
    refine row x y xs t (tgt_sp ht) (fun h1 => ?_) (fun h1 => ?_)
    · have := kk0 kk hr hc hs hl hv2
      rwa [if_pos h1] at this
    · have := kk0 kk hr hc hs hl hv2
      rwa [if_neg h1] at this
  · cases hst
theorem w_if {P : Int32 → Int32 → Prop} [∀ x y, Decidable (P x y)] {off : Int} (hst : icmp P pc off L dl (aI 0 :: st) h = some (.inl cf)) (hr : HR A D dA q kv s H locs h.1 ws) (hl : LR q kv h.1.length ls (mL mi) L dl) (hv : VL q kv h.1.length st vs) (hc : cells + c0 = costC h) (hs : slots + s0 = costS h) (kk : KK p l e R s m args below meth c Q mi A D dA kv c0 s0 h.1.length q cf)
    (row : ∀ (x : Int32) (rest : List Value) (t : Nat), (pc : Int) + off = (t : Int) → (P x 0 → W p l e R s m args below meth c H locs cells slots Q (F0 m t ls rest)) → (¬ P x 0 → W p l e R s m args below meth c H locs cells slots Q (F0 m (pc + 3) ls rest)) → W p l e R s m args below meth c H locs cells slots Q (F0 m pc ls (.int x :: rest))) : W p l e R s m args below meth c H locs cells slots Q (F0 m pc ls vs) := by
  unfold icmp at hst
  split at hst
  · rename_i y x r t he ht
    simp only [List.cons.injEq, Sum.inl.injEq] at he
    obtain ⟨rfl, rfl⟩ := he
    cases go_inj hst
    obtain ⟨xs, rfl, hv9⟩ := hv.I
    refine row x xs t (tgt_sp ht) (fun h1 => ?_) (fun h1 => ?_)
    · have := kk0 kk hr hc hs hl hv9
      rwa [if_pos h1] at this
    · have := kk0 kk hr hc hs hl hv9
      rwa [if_neg h1] at this
  · cases hst
end
