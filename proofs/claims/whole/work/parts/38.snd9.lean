/-! SOUNDNESS 9: every step that goes on -/
theorem callA_go {sc : SC} {mi : MI} {y kd pc : Nat} {L : List AV} {dl : DL} {st : List AV} {h : AH} {cf : Cfg} (hst : callA sc mi y kd pc L dl st h = some (.inl cf)) : False := by
  unfold callA at hst
  repeat' split at hst
  all_goals simp at hst
theorem throwA_go {mi : MI} {pc E : Nat} {L : List AV} {st : List AV} {h : AH} {cf : Cfg} (hst : throwA mi pc E L st h = some (.inl cf)) : False := by
  unfold throwA at hst
  repeat' split at hst
  all_goals simp at hst
section
variable {p : Program} {l : Launch} {e : Env} {R : Room} {s : State} {m : MethodId} {args : Array Value} {below : List Frame} {meth : Method} {c : Code} {Q : State → Prop}
variable {mi : MI} {sc : SC} {A : Nat → Prop} {D : va_G} {dA : Nat → ClassId} {kv : Nat → Value} {c0 s0 : Nat}
variable {pc : Nat} {L : List AV} {dl : DL} {st : List AV} {h : AH} {ls : Array Slot} {vs : List Value} {H : Heap} {locs : List Loc} {cells slots : Nat} {q : Nat → Nat} {ws : va_W} {cf : Cfg}
/-- the shapes of a call that goes on at once -/
theorem w_invS {a : Nat} (hx : FX p s m meth c R mi) (hk : KC kv sc A s s.heap) (hd : decode (mB mi) pc = .ok (.invokestatic a, 3)) (hst : invA sc mi 2 a pc L dl st h = some (.inl cf)) (hroom : costC h ≤ c0 + R.cells ∧ costS h ≤ s0 + R.slots) (hr : HR A D dA q kv s H locs h.1 ws) (hl : LR q kv h.1.length ls (mL mi) L dl) (hv : VL q kv h.1.length st vs) (hc : cells + c0 = costC h) (hs : slots + s0 = costS h) (kk : KK p l e R s m args below meth c Q mi A D dA kv c0 s0 h.1.length q cf) : W p l e R s m args below meth c H locs cells slots Q (F0 m pc ls vs) := by
  unfold invA at hst
  split at hst
  · split at hst
    · exact (callA_go hst).elim
    · cases hst
  · simp at hst
  · rename_i f x he
    obtain ⟨j9, w9⟩ := x
    simp only [ne_eq, not_true_eq_false, if_false] at hst
    split at hst
    · rename_i y x r
      split at hst
      · rename_i hw8
        cases go_inj hst
        exact w_min hx hk hd he hw8 hroom hr hl hv hc hs kk
      · cases hst
    · rename_i y x r
      split at hst
      · rename_i hw8
        cases go_inj hst
        exact w_max hx hk hd he hw8 hroom hr hl hv hc hs kk
      · cases hst
    · rename_i x r
      split at hst
      · rename_i hw8
        cases go_inj hst
        exact w_abs hx hk hd he hw8 hroom hr hl hv hc hs kk
      · cases hst
    · cases hst
  · rename_i x he
    obtain ⟨i9, j9, w9⟩ := x
    simp only [ne_eq, not_true_eq_false, if_false] at hst
    split at hst
    · split at hst
      · rename_i hw8
        split at hst
        · rename_i h' hg
          cases go_inj hst
          exact w_copy hx hk hd he hw8 hg hr hl hv hc hs kk
        · cases hst
      · cases hst
    · cases hst
  · cases hst
theorem w_invI {a : Nat} (hx : FX p s m meth c R mi) (hk : KC kv sc A s s.heap) (hd : decode (mB mi) pc = .ok (.invokespecial a, 3)) (hst : invA sc mi 1 a pc L dl st h = some (.inl cf)) (hr : HR A D dA q kv s H locs h.1 ws) (hl : LR q kv h.1.length ls (mL mi) L dl) (hv : VL q kv h.1.length st vs) (hc : cells + c0 = costC h) (hs : slots + s0 = costS h) (kk : KK p l e R s m args below meth c Q mi A D dA kv c0 s0 h.1.length q cf) : W p l e R s m args below meth c H locs cells slots Q (F0 m pc ls vs) := by
  unfold invA at hst
  split at hst
  · split at hst
    · exact (callA_go hst).elim
    · cases hst
  · rename_i x he
    obtain ⟨i9, j9, w9⟩ := x
    simp only [ne_eq, not_true_eq_false, if_false] at hst
    split at hst
    · rename_i v r
      split at hst
      · rename_i hcc
        cases go_inj hst
        exact w_objInit hx hk hd he hcc.1 hcc.2 hr hl hv hc hs kk
      · cases hst
    · cases hst
  · simp at hst
  · simp at hst
  · cases hst
/-- invokevirtual never names Object() -/
theorem virt_ok : True := trivial
theorem step_go (hmi : mi ∈ MTl) (hx : FX p s m meth c R mi) (hk : KC kv sc A s s.heap) (hst : stp sc mi pc L dl st h = some (.inl cf)) (hroom0 : costC h ≤ c0 + R.cells ∧ costS h ≤ s0 + R.slots) (hroom : costC cf.2.2.2.2 ≤ c0 + R.cells ∧ costS cf.2.2.2.2 ≤ s0 + R.slots) (hr : HR A D dA q kv s H locs h.1 ws) (hl : LR q kv h.1.length ls (mL mi) L dl) (hv : VL q kv h.1.length st vs) (hc : cells + c0 = costC h) (hs : slots + s0 = costS h) (kk : KK p l e R s m args below meth c Q mi A D dA kv c0 s0 h.1.length q cf) : W p l e R s m args below meth c H locs cells slots Q (F0 m pc ls vs) := by
  unfold stp at hst
  cases hd : decode (mB mi) pc with
  | error z => rw [hd] at hst; simp at hst
  | ok z =>
    obtain ⟨ins, len⟩ := z
    rw [hd] at hst
    simp only at hst
    split at hst
    case isFalse => cases hst
    rename_i hlen
    have x1 := hx.1
    have x2 := hx.2.1
    cases ins with
    | aconst_null =>
      cases Nat.eq_of_beq_eq_true hlen
      cases go_inj hst
      exact lv_null x1 x2 hd (kk0 kk hr hc hs hl ⟨rfl, hv⟩)
    | iconst n =>
      cases Nat.eq_of_beq_eq_true hlen
      cases go_inj hst
      exact lv_iconst x1 x2 hd rfl (kk0 kk hr hc hs hl ⟨rfl, hv⟩)
    | bipush n =>
      cases Nat.eq_of_beq_eq_true hlen
      cases go_inj hst
      exact lv_bipush x1 x2 hd rfl (kk0 kk hr hc hs hl ⟨rfl, hv⟩)
    | sipush n =>
      cases Nat.eq_of_beq_eq_true hlen
      cases go_inj hst
      exact lv_sipush x1 x2 hd rfl (kk0 kk hr hc hs hl ⟨rfl, hv⟩)
    | lconst n =>
      cases Nat.eq_of_beq_eq_true hlen
      cases go_inj hst
      exact lv_lconst x1 x2 hd rfl (kk0 kk hr hc hs hl ⟨rfl, hv⟩)
    | ldc a =>
      cases Nat.eq_of_beq_eq_true hlen
      simp only [st1] at hst
      split at hst
      · rename_i i x he
        obtain ⟨j9, w9⟩ := x
        split at hst
        · rename_i x9 hg
          cases go_inj hst
          exact lv_ldc x1 x2 hx.2.2.2.1 (w_ldc hx hk he hg) hd (kk0 kk hr hc hs hl ⟨rfl, hv⟩)
        · cases hst
      · cases hst
    | ldc_w a =>
      cases Nat.eq_of_beq_eq_true hlen
      simp only [st1] at hst
      split at hst
      · rename_i i x he
        obtain ⟨j9, w9⟩ := x
        split at hst
        · rename_i x9 hg
          cases go_inj hst
          exact lv_ldcw x1 x2 hx.2.2.2.1 (w_ldc hx hk he hg) hd (kk0 kk hr hc hs hl ⟨rfl, hv⟩)
        · cases hst
      · cases hst
    | iload k =>
      cases Nat.eq_of_beq_eq_true hlen
      exact w_nl (n := 2) hst hr hl hv hc hs kk (fun x h1 k9 => lv_iload x1 x2 hd h1 k9)
    | iload_n k =>
      cases Nat.eq_of_beq_eq_true hlen
      exact w_nl (n := 1) hst hr hl hv hc hs kk (fun x h1 k9 => lv_iload_n x1 x2 hd rfl h1 k9)
    | aload k =>
      cases Nat.eq_of_beq_eq_true hlen
      exact w_al (n := 2) hk.1 hst hr hl hv hc hs kk (fun x h1 k9 => lv_aload x1 x2 hd h1 k9)
    | aload_n k =>
      cases Nat.eq_of_beq_eq_true hlen
      exact w_al (n := 1) hk.1 hst hr hl hv hc hs kk (fun x h1 k9 => lv_aload_n x1 x2 hd rfl h1 k9)
    | fload k =>
      cases Nat.eq_of_beq_eq_true hlen
      exact w_fl (n := 2) hst hr hl hv hc hs kk (fun x h1 k9 => lv_fload x1 x2 hd h1 k9)
    | fload_n k =>
      cases Nat.eq_of_beq_eq_true hlen
      exact w_fl (n := 1) hst hr hl hv hc hs kk (fun x h1 k9 => lv_fload_n x1 x2 hd rfl h1 k9)
    | dload k =>
      cases Nat.eq_of_beq_eq_true hlen
      exact w_el (n := 2) hst hr hl hv hc hs kk (fun x h1 k9 => lv_dload x1 x2 hd h1 k9)
    | dload_n k =>
      cases Nat.eq_of_beq_eq_true hlen
      exact w_el (n := 1) hst hr hl hv hc hs kk (fun x h1 k9 => lv_dload_n x1 x2 hd rfl h1 k9)
    | istore k =>
      cases Nat.eq_of_beq_eq_true hlen
      exact w_ns (n := 2) hst hr hl hv hc hs kk (fun x rest lv g1 g2 k9 => lv_istore x1 x2 hd g1 g2 rfl k9)
    | istore_n k =>
      cases Nat.eq_of_beq_eq_true hlen
      exact w_ns (n := 1) hst hr hl hv hc hs kk (fun x rest lv g1 g2 k9 => lv_istore_n x1 x2 hd rfl g1 g2 rfl k9)
    | astore k =>
      cases Nat.eq_of_beq_eq_true hlen
      exact w_as (n := 2) hk.1 hst hr hl hv hc hs kk (fun x rest lv g1 g2 k9 => lv_astore x1 x2 hd g1 g2 rfl k9)
    | astore_n k =>
      cases Nat.eq_of_beq_eq_true hlen
      exact w_as (n := 1) hk.1 hst hr hl hv hc hs kk (fun x rest lv g1 g2 k9 => lv_astore_n x1 x2 hd rfl g1 g2 rfl k9)
    | fstore k =>
      cases Nat.eq_of_beq_eq_true hlen
      exact w_fs (n := 2) hst hr hl hv hc hs kk (fun x rest lv g1 g2 k9 => lv_fstore x1 x2 hd g1 g2 rfl k9)
    | fstore_n k =>
      cases Nat.eq_of_beq_eq_true hlen
      exact w_fs (n := 1) hst hr hl hv hc hs kk (fun x rest lv g1 g2 k9 => lv_fstore_n x1 x2 hd rfl g1 g2 rfl k9)
    | dstore k =>
      cases Nat.eq_of_beq_eq_true hlen
      exact w_es (n := 2) hst hr hl hv hc hs kk (fun x rest lv g1 g2 k9 => lv_dstore x1 x2 hd g1 g2 rfl k9)
    | dstore_n k =>
      cases Nat.eq_of_beq_eq_true hlen
      exact w_es (n := 1) hst hr hl hv hc hs kk (fun x rest lv g1 g2 k9 => lv_dstore_n x1 x2 hd rfl g1 g2 rfl k9)
    | iinc k n =>
      cases Nat.eq_of_beq_eq_true hlen
      simp only [st1] at hst
      split at hst
      · rename_i x hx9
        split at hst
        · rename_i hk9
          cases go_inj hst
          obtain ⟨lv, g1, g2, g3⟩ := hl
          obtain ⟨y, h1, h2, h3⟩ := g2 k _ hx9 rfl
          have h4 : y = .int x := h2
          subst h4
          obtain ⟨j, hj⟩ := List.getElem?_of_mem h1
          exact lv_iinc x1 x2 hd g1 hj rfl hk9 rfl (fun ls' h' => kk0 kk hr hc hs (LR.st (v := .inl (x + Int32.ofInt n)) g2 g3 rfl (Or.inr rfl) h') hv)
        · cases hst
      · cases hst
    | iadd =>
      cases Nat.eq_of_beq_eq_true hlen
      exact w_bin hst hr hl hv hc hs kk (fun x y rest k9 => lv_iadd x1 x2 hd k9)
    | isub =>
      cases Nat.eq_of_beq_eq_true hlen
      exact w_bin hst hr hl hv hc hs kk (fun x y rest k9 => lv_isub x1 x2 hd k9)
    | imul =>
      cases Nat.eq_of_beq_eq_true hlen
      exact w_bin hst hr hl hv hc hs kk (fun x y rest k9 => lv_imul x1 x2 hd k9)
    | iand =>
      cases Nat.eq_of_beq_eq_true hlen
      exact w_bin hst hr hl hv hc hs kk (fun x y rest k9 => lv_iand x1 x2 hd k9)
    | ior =>
      cases Nat.eq_of_beq_eq_true hlen
      exact w_bin hst hr hl hv hc hs kk (fun x y rest k9 => lv_ior x1 x2 hd k9)
    | ixor =>
      cases Nat.eq_of_beq_eq_true hlen
      exact w_bin hst hr hl hv hc hs kk (fun x y rest k9 => lv_ixor x1 x2 hd k9)
    | ishl =>
      cases Nat.eq_of_beq_eq_true hlen
      exact w_bin hst hr hl hv hc hs kk (fun x y rest k9 => lv_ishl x1 x2 hd k9)
    | ishr =>
      cases Nat.eq_of_beq_eq_true hlen
      exact w_bin hst hr hl hv hc hs kk (fun x y rest k9 => lv_ishr x1 x2 hd k9)
    | iushr =>
      cases Nat.eq_of_beq_eq_true hlen
      exact w_bin hst hr hl hv hc hs kk (fun x y rest k9 => lv_iushr x1 x2 hd rfl k9)
    | idiv =>
      cases Nat.eq_of_beq_eq_true hlen
      simp only [st1] at hst
      split at hst
      · rename_i y x r
        split at hst
        · cases hst
        · rename_i hne
          cases go_inj hst
          obtain ⟨xs, rfl, hv1⟩ := hv.I
          obtain ⟨xs, rfl, hv2⟩ := hv1.I
          exact lv_idiv x1 x2 hd hne (kk0 kk hr hc hs hl ⟨rfl, hv2⟩)
      · cases hst
    | irem =>
      cases Nat.eq_of_beq_eq_true hlen
      simp only [st1] at hst
      split at hst
      · rename_i y x r
        split at hst
        · cases hst
        · rename_i hne
          cases go_inj hst
          obtain ⟨xs, rfl, hv1⟩ := hv.I
          obtain ⟨xs, rfl, hv2⟩ := hv1.I
          exact lv_irem x1 x2 hd hne (kk0 kk hr hc hs hl ⟨rfl, hv2⟩)
      · cases hst
    | ineg =>
      cases Nat.eq_of_beq_eq_true hlen
      exact w_una (f := fun x => aI (-x)) (g := fun x => .int (-x)) (fun _ => rfl) hst hr hl hv hc hs kk (fun x rest k9 => lv_ineg x1 x2 hd k9)
    | i2l =>
      cases Nat.eq_of_beq_eq_true hlen
      exact w_una (f := fun x => aL x.toInt64) (g := fun x => .long x.toInt64) (fun _ => rfl) hst hr hl hv hc hs kk (fun x rest k9 => lv_i2l x1 x2 hd rfl k9)
    | i2b =>
      cases Nat.eq_of_beq_eq_true hlen
      exact w_una (f := fun x => aI x.toInt8.toInt32) (g := fun x => .int x.toInt8.toInt32) (fun _ => rfl) hst hr hl hv hc hs kk (fun x rest k9 => lv_i2b x1 x2 hd rfl k9)
    | i2c =>
      cases Nat.eq_of_beq_eq_true hlen
      exact w_una (f := fun x => aI (x.toUInt32 % 65536).toInt32) (g := fun x => .int (x.toUInt32 % 65536).toInt32) (fun _ => rfl) hst hr hl hv hc hs kk (fun x rest k9 => lv_i2c x1 x2 hd rfl k9)
    | i2d =>
      cases Nat.eq_of_beq_eq_true hlen
      exact w_una (f := fun x => aE (FP.i2d x)) (g := fun x => .double (FP.i2d x)) (fun _ => rfl) hst hr hl hv hc hs kk (fun x rest k9 => lv_i2d x1 x2 hd k9)
    | i2f =>
      cases Nat.eq_of_beq_eq_true hlen
      exact w_una (f := fun x => aF (FP.i2f x)) (g := fun x => .float (FP.i2f x)) (fun _ => rfl) hst hr hl hv hc hs kk (fun x rest k9 => lv_i2f x1 x2 hd k9)
    | f2d =>
      cases Nat.eq_of_beq_eq_true hlen
      simp only [st1] at hst
      split at hst
      · rename_i x r
        split at hst
        · rename_i hne
          cases go_inj hst
          obtain ⟨xs, rfl, hv1⟩ := hv.F
          exact lv_f2d x1 x2 hd hne (kk0 kk hr hc hs hl ⟨rfl, hv1⟩)
        · cases hst
      · cases hst
    | ddiv =>
      cases Nat.eq_of_beq_eq_true hlen
      simp only [st1] at hst
      split at hst
      · rename_i y x r
        split at hst
        · rename_i hne
          cases go_inj hst
          obtain ⟨xs, rfl, hv1⟩ := hv.E
          obtain ⟨xs, rfl, hv2⟩ := hv1.E
          exact lv_ddiv x1 x2 hd hne (kk0 kk hr hc hs hl ⟨rfl, hv2⟩)
        · cases hst
      · cases hst
    | fdiv =>
      cases Nat.eq_of_beq_eq_true hlen
      simp only [st1] at hst
      split at hst
      · rename_i y x r
        split at hst
        · rename_i hne
          cases go_inj hst
          obtain ⟨xs, rfl, hv1⟩ := hv.F
          obtain ⟨xs, rfl, hv2⟩ := hv1.F
          exact lv_fdiv x1 x2 hd hne (kk0 kk hr hc hs hl ⟨rfl, hv2⟩)
        · cases hst
      · cases hst
    | dcmp op =>
      cases Nat.eq_of_beq_eq_true hlen
      simp only [st1] at hst
      split at hst
      · rename_i y x r
        cases go_inj hst
        obtain ⟨xs, rfl, hv1⟩ := hv.E
        obtain ⟨xs, rfl, hv2⟩ := hv1.E
        exact lv_dcmp x1 x2 hd (kk0 kk hr hc hs hl ⟨rfl, hv2⟩)
      · cases hst
    | lcmp =>
      cases Nat.eq_of_beq_eq_true hlen
      simp only [st1] at hst
      split at hst
      · rename_i y x r
        cases go_inj hst
        obtain ⟨xs, rfl, hv1⟩ := hv.Lg
        obtain ⟨xs, rfl, hv2⟩ := hv1.Lg
        exact W.lcmp x1 x2 hd (kk0 kk hr hc hs hl ⟨by rw [lgc_eq]; rfl, hv2⟩)
      · cases hst
    | dup =>
      cases Nat.eq_of_beq_eq_true hlen
      simp only [st1] at hst
      split at hst
      · rename_i v r
        split at hst
        · rename_i hcat
          cases go_inj hst
          obtain ⟨x, xs, rfl, hv1, hv2⟩ := hv.cons
          exact lv_dup x1 x2 hd (by rw [hv1.cat hk.1]; exact hcat) (kk0 kk hr hc hs hl ⟨hv1, hv1, hv2⟩)
        · cases hst
      · cases hst
    | dup2 =>
      cases Nat.eq_of_beq_eq_true hlen
      simp only [st1] at hst
      split at hst
      · rename_i v w r
        split at hst
        · rename_i hcat
          cases go_inj hst
          obtain ⟨x, xs, rfl, hv1, hv2⟩ := hv.cons
          obtain ⟨y, ys, rfl, hv3, hv4⟩ := hv2.cons
          exact lv_dup2_11 x1 x2 hd (by rw [hv1.cat hk.1]; exact hcat.1) (by rw [hv3.cat hk.1]; exact hcat.2) (kk0 kk hr hc hs hl ⟨hv1, hv3, hv1, hv3, hv4⟩)
        · cases hst
      · cases hst
    | dup_x1 =>
      cases Nat.eq_of_beq_eq_true hlen
      simp only [st1] at hst
      split at hst
      · rename_i v w r
        split at hst
        · rename_i hcat
          cases go_inj hst
          obtain ⟨x, xs, rfl, hv1, hv2⟩ := hv.cons
          obtain ⟨y, ys, rfl, hv3, hv4⟩ := hv2.cons
          exact lv_dup_x1 x1 x2 hd (by rw [hv1.cat hk.1]; exact hcat.1) (by rw [hv3.cat hk.1]; exact hcat.2) (kk0 kk hr hc hs hl ⟨hv1, hv3, hv1, hv4⟩)
        · cases hst
      · cases hst
    | pop =>
      cases Nat.eq_of_beq_eq_true hlen
      simp only [st1] at hst
      split at hst
      · rename_i v r
        split at hst
        · rename_i hcat
          cases go_inj hst
          obtain ⟨x, xs, rfl, hv1, hv2⟩ := hv.cons
          exact lv_pop x1 x2 hd (by rw [hv1.cat hk.1]; exact hcat) (kk0 kk hr hc hs hl hv2)
        · cases hst
      · cases hst
    | if_icmp cnd off =>
      cases Nat.eq_of_beq_eq_true hlen
      cases cnd with
      | eq => exact w_icmp hst hr hl hv hc hs kk (fun x y rest t ht k1 k2 => lv_icmp_eq x1 x2 hd ht k1 k2)
      | ne => exact w_icmp hst hr hl hv hc hs kk (fun x y rest t ht k1 k2 => lv_icmp_ne x1 x2 hd ht k1 (fun z => k2 (fun w => w z)))
      | lt => exact w_icmp hst hr hl hv hc hs kk (fun x y rest t ht k1 k2 => lv_icmp_lt x1 x2 hd ht k1 k2)
      | ge => exact w_icmp hst hr hl hv hc hs kk (fun x y rest t ht k1 k2 => lv_icmp_ge x1 x2 hd ht k1 k2)
      | gt => exact w_icmp hst hr hl hv hc hs kk (fun x y rest t ht k1 k2 => lv_icmp_gt x1 x2 hd ht k1 k2)
      | le => exact w_icmp hst hr hl hv hc hs kk (fun x y rest t ht k1 k2 => lv_icmp_le x1 x2 hd ht k1 k2)
    | ifCond cnd off =>
      cases Nat.eq_of_beq_eq_true hlen
      cases cnd with
      | eq => exact w_if hst hr hl hv hc hs kk (fun x rest t ht k1 k2 => lv_if_eq x1 x2 hd ht k1 k2)
      | ne => exact w_if hst hr hl hv hc hs kk (fun x rest t ht k1 k2 => lv_if_ne x1 x2 hd ht k1 (fun z => k2 (fun w => w z)))
      | lt => exact w_if hst hr hl hv hc hs kk (fun x rest t ht k1 k2 => lv_if_lt x1 x2 hd ht k1 k2)
      | ge => exact w_if hst hr hl hv hc hs kk (fun x rest t ht k1 k2 => lv_if_ge x1 x2 hd ht k1 k2)
      | gt => exact w_if hst hr hl hv hc hs kk (fun x rest t ht k1 k2 => lv_if_gt x1 x2 hd ht k1 k2)
      | le => exact w_if hst hr hl hv hc hs kk (fun x rest t ht k1 k2 => lv_if_le x1 x2 hd ht k1 k2)
    | if_acmp cnd off =>
      cases Nat.eq_of_beq_eq_true hlen
      have key : ∀ i j : Nat, 1 ≤ i ∧ i < 13 ∧ 1 ≤ j ∧ j < 13 → ∃ ai aj : Nat, kv i = va_rf (some ai) ∧ kv j = va_rf (some aj) ∧ (some ai = some aj ↔ i = j) := by
        intro i j hij
        obtain ⟨ai, hai⟩ := hk.1 i
        obtain ⟨aj, haj⟩ := hk.1 j
        refine ⟨ai, aj, hai, haj, fun z => hk.2.1 i j hij.1 hij.2.1 hij.2.2.1 hij.2.2.2 (by rw [hai, haj, Option.some.inj z]), fun z => ?_⟩
        subst z
        rw [hai] at haj
        cases haj
        rfl
      cases cnd with
      | eq =>
        simp only [st1] at hst
        split at hst
        · rename_i j i r t ht
          split at hst
          · rename_i hij
            cases go_inj hst
            obtain ⟨xs, rfl, hv1⟩ := hv.C
            obtain ⟨ys, rfl, hv2⟩ := hv1.C
            obtain ⟨ai, aj, e1, e2, e3⟩ := key i j hij
            rw [e1, e2]
            refine lv_acmp_eq x1 x2 hd (tgt_sp ht) (fun z => ?_) (fun z => ?_)
            · have := kk0 kk hr hc hs hl hv2
              rwa [if_pos (e3.mp z)] at this
            · have := kk0 kk hr hc hs hl hv2
              rwa [if_neg (fun y => z (e3.mpr y))] at this
          · cases hst
        · cases hst
      | ne =>
        simp only [st1] at hst
        split at hst
        · rename_i j i r t ht
          split at hst
          · rename_i hij
            cases go_inj hst
            obtain ⟨xs, rfl, hv1⟩ := hv.C
            obtain ⟨ys, rfl, hv2⟩ := hv1.C
            obtain ⟨ai, aj, e1, e2, e3⟩ := key i j hij
            rw [e1, e2]
            refine lv_acmp_ne x1 x2 hd (tgt_sp ht) (fun z => ?_) (fun z => ?_)
            · have := kk0 kk hr hc hs hl hv2
              rwa [if_pos (fun y => z (e3.mpr y))] at this
            · have := kk0 kk hr hc hs hl hv2
              rwa [if_neg (fun y => y (e3.mp z))] at this
          · cases hst
        · cases hst
    | ifnull off =>
      cases Nat.eq_of_beq_eq_true hlen
      simp only [st1] at hst
      split at hst
      · cases go_inj hst
        obtain ⟨xs, rfl, hp, hv1⟩ := hv.D
        exact lv_ifnull x1 x2 hd (kk0 kk hr hc hs hl hv1)
      · cases go_inj hst
        obtain ⟨xs, rfl, hv1⟩ := hv.C
        obtain ⟨a, ha⟩ := hk.1 _
        rw [ha]
        exact lv_ifnull x1 x2 hd (kk0 kk hr hc hs hl hv1)
      · cases hst
    | ifnonnull off =>
      cases Nat.eq_of_beq_eq_true hlen
      simp only [st1] at hst
      split at hst
      · rename_i ht
        cases go_inj hst
        obtain ⟨xs, rfl, hp, hv1⟩ := hv.D
        exact lv_ifnonnull x1 x2 hd (tgt_sp ht) (kk0 kk hr hc hs hl hv1)
      · rename_i ht
        cases go_inj hst
        obtain ⟨xs, rfl, hv1⟩ := hv.C
        obtain ⟨a, ha⟩ := hk.1 _
        rw [ha]
        exact lv_ifnonnull x1 x2 hd (tgt_sp ht) (kk0 kk hr hc hs hl hv1)
      · cases hst
    | goto off =>
      cases Nat.eq_of_beq_eq_true hlen
      simp only [st1] at hst
      split at hst
      · rename_i t ht
        cases go_inj hst
        exact lv_goto x1 x2 hd (tgt_sp ht) (kk0 kk hr hc hs hl hv)
      · cases hst
    | tableswitch d lo hi offs =>
      simp only [st1] at hst
      split at hst
      · rename_i x r
        obtain ⟨xs, rfl, hv1⟩ := hv.I
        split at hst
        · rename_i hout
          split at hst
          · rename_i t ht
            cases go_inj hst
            exact lv_tableOut x1 x2 hd hout (tgt_sp ht) (kk0 kk hr hc hs hl hv1)
          · cases hst
        · rename_i hin
          split at hst
          · rename_i off ho
            split at hst
            · rename_i t ht
              cases go_inj hst
              exact lv_tableIn x1 x2 hd (fun z => hin (Or.inl z)) (fun z => hin (Or.inr z)) ho (tgt_sp ht) (kk0 kk hr hc hs hl hv1)
            · cases hst
          · cases hst
      · cases hst
    | getfield a =>
      cases Nat.eq_of_beq_eq_true hlen
      simp only [st1] at hst
      split at hst
      · rename_i v r c9 k9 w9 he
        split at hst
        · rename_i w hg
          split at hst
          · cases hst
          · rename_i hu
            cases go_inj hst
            exact w_getfield hx hk hd he hg (by simpa using hu) hr hl hv hc hs kk
        · cases hst
      · cases hst
    | putfield a =>
      cases Nat.eq_of_beq_eq_true hlen
      simp only [st1] at hst
      split at hst
      · rename_i v pp r c9 k9 w9 he
        split at hst
        · rename_i ts ht
          split at hst
          · rename_i t ht2
            split at hst
            · rename_i hfo
              split at hst
              · rename_i h' hg
                cases go_inj hst
                exact w_putfield hx hk hd he ht ht2 hg hmi hfo hr hl hv hc hs kk
              · cases hst
            · cases hst
          · cases hst
        · cases hst
      · cases hst
    | getstatic a =>
      cases Nat.eq_of_beq_eq_true hlen
      simp only [st1] at hst
      split at hst
      · rename_i i x he
        obtain ⟨j9, w9⟩ := x
        split at hst
        · rename_i v hg
          cases go_inj hst
          exact w_getstatic hx hk hd he hg hr hl hv hc hs kk
        · cases hst
      · cases hst
    | iaload =>
      cases Nat.eq_of_beq_eq_true hlen
      simp only [st1] at hst
      split at hst
      · split at hst
        · rename_i x hg
          cases go_inj hst
          exact w_iaload hx hk hd hg hr hl hv hc hs kk
        · cases hst
      · cases hst
    | caload =>
      cases Nat.eq_of_beq_eq_true hlen
      simp only [st1] at hst
      split at hst
      · split at hst
        · rename_i x hg
          cases go_inj hst
          exact w_caload hx hk hd hg hr hl hv hc hs kk
        · cases hst
      · cases hst
    | baload =>
      cases Nat.eq_of_beq_eq_true hlen
      simp only [st1] at hst
      split at hst
      · split at hst
        · rename_i x hg
          cases go_inj hst
          exact w_baload hx hk hd hg hr hl hv hc hs kk
        · cases hst
      · cases hst
    | laload =>
      cases Nat.eq_of_beq_eq_true hlen
      simp only [st1] at hst
      split at hst
      · split at hst
        · rename_i n f ho
          split at hst
          · rename_i hin
            cases go_inj hst
            exact w_laload hx hd ho hin hr hl hv hc hs kk
          · cases hst
        · cases hst
      · cases hst
    | daload =>
      cases Nat.eq_of_beq_eq_true hlen
      simp only [st1] at hst
      split at hst
      · split at hst
        · rename_i n f ho
          split at hst
          · rename_i hin
            cases go_inj hst
            exact w_daload hx hd ho hin hr hl hv hc hs kk
          · cases hst
        · cases hst
      · cases hst
    | aaload =>
      cases Nat.eq_of_beq_eq_true hlen
      simp only [st1] at hst
      split at hst
      · split at hst
        · rename_i x hg
          cases go_inj hst
          exact w_aaload hx hk hd hg hr hl hv hc hs kk
        · cases hst
      · cases hst
    | iastore =>
      cases Nat.eq_of_beq_eq_true hlen
      simp only [st1] at hst
      split at hst
      · split at hst
        · rename_i h' hg
          cases go_inj hst
          exact w_iastore hx hd hg hr hl hv hc hs kk
        · cases hst
      · cases hst
    | castore =>
      cases Nat.eq_of_beq_eq_true hlen
      simp only [st1] at hst
      split at hst
      · split at hst
        · rename_i h' hg
          cases go_inj hst
          exact w_castore hx hd hg hr hl hv hc hs kk
        · cases hst
      · cases hst
    | bastore =>
      cases Nat.eq_of_beq_eq_true hlen
      simp only [st1] at hst
      split at hst
      · split at hst
        · rename_i h' hg
          cases go_inj hst
          exact w_bastore hx hd hg hr hl hv hc hs kk
        · cases hst
      · cases hst
    | lastore =>
      cases Nat.eq_of_beq_eq_true hlen
      simp only [st1] at hst
      split at hst
      · split at hst
        · rename_i n f ho
          split at hst
          · rename_i hin
            cases go_inj hst
            exact w_lastore hx hd ho hin hr hl hv hc hs kk
          · cases hst
        · cases hst
      · cases hst
    | dastore =>
      cases Nat.eq_of_beq_eq_true hlen
      simp only [st1] at hst
      split at hst
      · split at hst
        · rename_i n f ho
          split at hst
          · rename_i hin
            cases go_inj hst
            exact w_dastore hx hd ho hin hr hl hv hc hs kk
          · cases hst
        · cases hst
      · cases hst
    | aastore =>
      cases Nat.eq_of_beq_eq_true hlen
      simp only [st1] at hst
      split at hst
      · split at hst
        · rename_i h' hg
          cases go_inj hst
          exact w_aastore hx hd hg hr hl hv hc hs kk
        · cases hst
      · cases hst
    | arraylength =>
      cases Nat.eq_of_beq_eq_true hlen
      simp only [st1] at hst
      split at hst
      · split at hst
        · rename_i n hg
          cases go_inj hst
          exact w_alen hx hk hd hg hr hl hv hc hs kk
        · cases hst
      · cases hst
    | newarray a =>
      cases Nat.eq_of_beq_eq_true hlen
      simp only [st1] at hst
      split at hst
      · split at hst
        · cases hst
        · rename_i hn
          split at hst
          · rename_i o ho
            cases go_inj hst
            exact w_newarray hx hk hd hn ho hroom hr hl hv hc hs kk
          · cases hst
      · cases hst
    | anewarray a =>
      cases Nat.eq_of_beq_eq_true hlen
      simp only [st1] at hst
      split at hst
      · rename_i n r c9 i9 w9 he
        split at hst
        · cases hst
        · rename_i hn
          cases go_inj hst
          have hcc : c9 = ciProg := by
            by_cases hz : c9 = ciProg
            · exact hz
            · exact absurd (Or.inr (Or.inr hz)) hn
          subst hcc
          exact w_anewarray hx hk hd he (fun z => hn (z.imp id Or.inl)) hroom hr hl hv hc hs kk
      · cases hst
    | new a =>
      cases Nat.eq_of_beq_eq_true hlen
      simp only [st1] at hst
      split at hst
      · rename_i c9 n9 w9 he
        split at hst
        · rename_i ts hg
          cases go_inj hst
          exact w_new hx hk hd he hg hroom hr hl hv hc hs kk
        · cases hst
      · exact (throwA_go hst).elim
      · cases hst
    | invokevirtual a =>
      cases Nat.eq_of_beq_eq_true hlen
      simp only [st1] at hst
      unfold invA at hst
      split at hst
      · split at hst
        · exact (callA_go hst).elim
        · cases hst
      · simp at hst
      · simp at hst
      · simp at hst
      · cases hst
    | invokespecial a =>
      cases Nat.eq_of_beq_eq_true hlen
      exact w_invI hx hk hd hst hr hl hv hc hs kk
    | invokestatic a =>
      cases Nat.eq_of_beq_eq_true hlen
      exact w_invS hx hk hd hst hroom0 hr hl hv hc hs kk
    | ireturn =>
      simp only [st1] at hst
      repeat' split at hst
      all_goals simp at hst
    | areturn =>
      simp only [st1] at hst
      repeat' split at hst
      all_goals simp at hst
    | dreturn =>
      simp only [st1] at hst
      repeat' split at hst
      all_goals simp at hst
    | freturn =>
      simp only [st1] at hst
      repeat' split at hst
      all_goals simp at hst
    | return_ => simp [st1] at hst
    | _ => simp [st1] at hst
end
