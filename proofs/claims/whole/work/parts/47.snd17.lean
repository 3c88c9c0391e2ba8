/-! SOUNDNESS 17: from the abstract run of the law to the walk of its body -/
theorem law_retI {sc : SC} {pc : Nat} {L : List AV} {dl : DL} {st : List AV} {h h' : AH} (hst : stp sc mi_L_law pc L dl st h = some (.inr (.inl (some (aI 1), h')))) : decode code pc = .ok (.ireturn, 1) ∧ ∃ r, st = aI 1 :: r := by
  obtain ⟨ins, len, hd, hlen, hs, g⟩ := stp_G hst
  rcases g.2 with ⟨z, hz⟩ | hs2
  · cases hz
  · cases ins <;> first | (simp [sp] at hs2; done) | skip
    case ireturn =>
      cases Nat.eq_of_beq_eq_true hlen
      simp only [st1] at hs
      split at hs
      · split at hs
        · rename_i x r hk
          simp only [Option.some.injEq, Sum.inr.injEq, Sum.inl.injEq, Prod.mk.injEq] at hs
          obtain ⟨rfl, -⟩ := hs
          exact ⟨hd, r, rfl⟩
        · cases hs
      · cases hs
    all_goals
      exfalso
      simp only [st1, invA, callA, throwA, go] at hs
      repeat' split at hs
      all_goals first | (cases hs; done) | (simp at hs; done) | (rename_i hk; simp [retA, retD, retF, retV, mi_L_law] at hk; done) | (rename_i hk; cases hs; simp [retA, retD, retF, retV, mi_L_law] at hk; done) | (rename_i hk; cases hs; simp [aObj] at hk; done)
/-- the law's own end, whatever lies below the answer on the stack (after the skeleton's lw_ret) -/
theorem lw_retR {p : Program} {l : Launch} {e : Env} {s : State} {m : MethodId} {below : List Frame} {meth : Method} {c : Code} {b : Nat} {d0 : Drawn} {rest : List Value} (hd0 : s.drawn.sameBut d0 lw_cs) (hx : p.tables.exec = Jvm.exec) (hb : c.code = code) (hr : meth.sig.returnType = ret) (hlocks : meth.locks = false) {pc : Nat} {H : Heap} {ls : Array Slot} (hdg : decode code pc = .ok (.ireturn, 1)) : W p l e room_1 (s.setDrawn d0) m #[Value.ref b] below meth c H [] 603072 7178346 (lw_Z below #[Value.ref b] s) (F0 m pc ls (.int 1 :: rest)) := by
  intro T hT X
  obtain ⟨fs, hret, hrun, hended, hW, hframe⟩ := X.leave (v := some (.int 1)) (hlocks := hlocks) (fun h => by rw [hr] at h; cases h)
  have hmeth' : T.vm.method? m = some meth := X.method'
  refine ⟨T.setFrames fs, ?_, .returned (some (.int 1)), hrun, hended, rfl, lw_closed hd0 ⟨_, rfl⟩ hW hframe⟩
  jvm_step X.here [X.here.top, hx, hb, hdg, hmeth', hr, ret, narrow_b1]
  (try refine ⟨rfl, ?_⟩); (try refine ⟨rfl, ?_⟩)
  first | (intro acts; rw [hret _ acts rfl rfl rfl]) | rw [hret _ _ rfl rfl rfl]
  exact Steps.refl _
/-- THE SOUNDNESS OF THE LAW'S RUN: where the abstract machine ends with 1 inside the room, so does the law -/
theorem law_sound {p : Program} {e : Env} {s : State} {m : MethodId} {below : List Frame} {meth : Method} {c : Code} (l : Launch) (hflags : l.flags = flags0) {b L : Nat} {xs : Nat → Int32} (C0 : lw_At p s m meth c b L xs) {h1 : AH} (hrun : Run (L, xs) n_L_law 0 (ent 9 [aC 0]) none [] ([], 0) = some (.inl (some (aI 1)), h1)) (hcost : costC h1 ≤ 603072 ∧ costS h1 ≤ 7178346) : W p l e room_1 s m #[Value.ref b] below meth c s.heap [] 0 0 (lw_Z below #[Value.ref b] s) (entryFrame m ([Value.ref b] : List Value).toArray 9) := by
  obtain ⟨hx, hb, hr, hml, hown, hts, hX, hbl, hlocks, hgv⟩ := C0
  have hl9 : l.stackTraces = false := by
    unfold Launch.stackTraces
    rw [hflags]
    first | rfl | decide +kernel
  have hcF : TT.before #[Value.ref b] s = true := hgv
  have hA : ∀ a : Nat, a < s.heap.size → ¬ (fun q : Nat => s.heap.size ≤ q) a := fun a h1 h2 => Nat.not_lt.mpr h2 h1
  have hk := KC_start (A := fun q : Nat => s.heap.size ≤ q) rfl hcF hts hX hbl hA
  obtain ⟨D, dA, hK⟩ := vaK_start hts
  obtain ⟨n, he⟩ := Run_iff.mp hrun
  have hfx : FX p s m meth c room_1 mi_L_law := ⟨hx, hb, hml, hown, hr, hlocks, Nat.le_of_ble_eq_true rfl, Nat.le_of_ble_eq_true rfl, fun h => absurd rfl h, fun h => absurd h (by decide), _, rfl⟩
  have hHR : HR (fun q : Nat => s.heap.size ≤ q) D dA (fun _ => 0) (kvS #[Value.ref b] s) s s.heap [] [] [] := ⟨fun k q hq => by simp at hq, hK, ⟨fun i j x y hi => by simp at hi, fun k q hq => by simp at hq⟩, va_S.rf, fun _ h => h, rfl, fun k o ho => by simp at ho⟩
  have hv0 : VL (fun _ => 0) (kvS #[Value.ref b] s) 0 [aC 0] [.ref b] := by
    refine ⟨?_, trivial⟩
    show Value.ref b = kvS #[Value.ref b] s 0
    exact (kvS_ev (k := 0) rfl).symm
  have hLR : LR (fun _ => 0) (kvS #[Value.ref b] s) 0 ((lg_sl [Value.ref b] ++ List.replicate (9 - (lg_sl [Value.ref b]).length) Slot.unset).toArray) 9 (ent 9 [aC 0]) none := LR.entry kvS_kv hv0 (fun v hv => by rw [List.mem_singleton] at hv; subst hv; rfl) (by decide)
  rw [lg_entry_eq]
  refine frame_all hl9 n n_L_law mi_L_law p e room_1 s m #[Value.ref b] below meth c (lw_Z below #[Value.ref b] s) (.inl (some (aI 1)), h1) 0 0 0 (fun _ => 0) law_at hfx hk (by simpa [room_1] using hcost.1) (by simpa [room_1] using hcost.2) ?_ ?_ ?_ 0 _ none [] ([], 0) _ [] s.heap [] 0 0 (fun _ => 0) [] he (Nat.le_refl _) (fun _ _ => rfl) hHR hLR trivial rfl rfl
  · intro pc L9 dl st v h ls vs H locs cells slots q ws hst hr1 _ hr2 hv2 hc2 hs2
    have hv9 : v = some (aI 1) := (Sum.inl.inj hr1).symm
    subst hv9
    obtain ⟨hd, r, rfl⟩ := law_retI hst
    have hsame := ret_same hst
    obtain ⟨vs', rfl, -⟩ := hv2.I
    have e1 : cells ≤ 603072 := by
      have : costC h1 ≤ 603072 := hcost.1
      have h9 : h1 = h := hsame
      rw [← h9] at hc2
      omega
    have e2 : slots ≤ 7178346 := by
      have : costS h1 ≤ 7178346 := hcost.2
      have h9 : h1 = h := hsame
      rw [← h9] at hs2
      omega
    refine W.widen e1 e2 (va_forget (fun z hz => hr2.2.2.2.1.2.2 z hz) ?_)
    exact lw_retR (Drawn.sameBut.refl s.drawn lw_cs) hx hb hr hlocks hd
  · intro pc L9 dl st E h ls vs H locs cells slots q ws hst hr1
    cases hr1
  · intro pc E nm nms ce q9 ls rest H locs cells slots q ws hh hr1
    cases hr1
