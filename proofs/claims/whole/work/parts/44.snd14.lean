/-! SOUNDNESS 14: throws in a frame, handlers, the main induction -/
def wOK (w : Cond) : Bool := lw_tbl.contains w && okv w && vx_ot w
set_option maxRecDepth 100000 in
set_option maxHeartbeats 4000000 in
theorem thr_ok : RTl.all (fun r => r.2.all (fun e => !Nat.beq e.2.1 9 || (match EXl[e.2.2.1]? with | some q => (if e.2.2.1 = 5 then decide (q.1 = ns_X) && ((ns_ws r.1 e.1).filter vx_no).all wOK else (vx_atS r.1 e.1 q.1 q.2).all wOK) && Bundle.fit q.1 && q.2.all Bundle.fit && Nat.beq q.2.length 2 && lw_tbl.contains (.initialized q.1) | none => false))) = true := by decide +kernel
theorem idx_ok : RTl.all (fun r => r.2.all (fun e => !Nat.beq e.1 0)) = true := by decide +kernel
theorem go_inj' {pc' : Nat} {L' : List AV} {dl' : DL} {st' : List AV} {h' : AH} {z : (Option AV × AH) ⊕ (Nat × Nat × List AV × Cfg) ⊕ (Nat × AH)} (h : go pc' L' dl' st' h' = some (.inr z)) : False := by
  unfold go at h
  cases h
theorem thr_use {cn idx E w1 w2 : Nat} {own : String} {es : List (Nat × Nat × Nat × Nat × Nat)} (hes : RTl[cn]? = some (own, es)) (h : rs cn idx = some (9, E, w1, w2)) : ∃ q, EXl[E]? = some q ∧ (if E = 5 then q.1 = ns_X ∧ ∀ w ∈ (ns_ws own idx).filter vx_no, wOK w = true else ∀ w ∈ vx_atS own idx q.1 q.2, wOK w = true) ∧ Bundle.fit q.1 = true ∧ (∀ n ∈ q.2, Bundle.fit n = true) ∧ q.2.length = 2 ∧ lw_tbl.contains (.initialized q.1) = true := by
  unfold rs at h
  rw [hes] at h
  have hm := lookup_mem (show es.lookup idx = some (9, E, w1, w2) from h)
  have h1 := List.all_eq_true.mp (List.all_eq_true.mp thr_ok (own, es) (List.mem_of_getElem? hes)) _ hm
  have hb : Nat.beq 9 9 = true := rfl
  simp only [hb, Bool.not_true, Bool.false_or] at h1
  split at h1
  · rename_i q hq
    simp only [Bool.and_eq_true] at h1
    obtain ⟨⟨⟨⟨h2, h3⟩, h4⟩, h5⟩, h6⟩ := h1
    refine ⟨q, hq, ?_, h3, List.all_eq_true.mp h4, Nat.eq_of_beq_eq_true h5, h6⟩
    by_cases hE : E = 5
    · rw [if_pos hE] at h2 ⊢
      simp only [Bool.and_eq_true, decide_eq_true_eq] at h2
      exact ⟨h2.1, List.all_eq_true.mp h2.2⟩
    · rw [if_neg hE] at h2 ⊢
      exact List.all_eq_true.mp h2
  · cases h1
section
variable {p : Program} {l : Launch} {e : Env} {R : Room} {s : State} {m : MethodId} {args : Array Value} {below : List Frame} {meth : Method} {c : Code} {Q : State → Prop}
variable {mi : MI} {sc : SC} {A : Nat → Prop} {D : va_G} {dA : Nat → ClassId} {kv : Nat → Value}
variable {pc : Nat} {L : List AV} {dl : DL} {st : List AV} {h : AH} {ls : Array Slot} {vs : List Value} {H : Heap} {locs : List Loc} {cells slots : Nat} {q : Nat → Nat} {ws : va_W}
theorem wOK_at (hk : KC kv sc A s s.heap) {w : Cond} (h : wOK w = true) (args : Array Value) : w.before args s = true ∧ vx_ot w = true := by
  unfold wOK at h
  simp only [Bool.and_eq_true] at h
  exact ⟨hk.word h.1.1 h.1.2 args, h.2⟩
/-- a throw in a frame -/
theorem step_thr {E mc ms : Nat} {h' : AH} {Qc : Array Value → State → Outcome → State → Prop} {XC : String → State → State → Prop} (hx : FX p s m meth c R mi) (hk : KC kv sc A s s.heap) (hl9 : l.stackTraces = false) (htab : c.exceptionTable.toList = tableOf (mHH mi))
    (hst : stp sc mi pc L dl st h = some (.inr (.inr (.inr (E, h'))))) (hr : HR A D dA q kv s H locs h.1 ws) (hls : ls.size = mL mi) (hv : VL q kv h.1.length st vs)
    (hroom : cells + 1 ≤ R.cells ∧ slots + 6 ≤ R.slots) (hc : cells + 1 ≤ mc) (hs : slots + 6 ≤ ms)
    (hx2 : ∀ (nm : String) (nms : List String) (t : State), EXl[E]? = some (nm, nms) → h' = (h.1, h.2 + 1) → s.vm.Alike t.vm → H.size ≤ t.heap.size → (∀ q : Nat, q < H.size → t.heap[q]? = H[q]?) → XC nm s t) : W p l e R s m args below meth c H locs cells slots (vx_MQ below Qc XC args s mc ms A) (F0 m pc ls vs) := by
  obtain ⟨ins, len, hd, hlen, hs9, g⟩ := stp_G hst
  obtain ⟨x1, x2, x3, x4, x5, x6, x7, x8, x9, x10, es, x11⟩ := id hx
  have hf : ∀ z ∈ locs, A z.base := hr.2.2.2.1.2.2
  have hs2 := g.2
  have key : ∃ a w1 w2, ins = .new a ∧ rs (mCn mi) a = some (4, E, w1, w2) ∧ throwA mi pc E L st h = some (.inr (.inr (.inr (E, h')))) := by
    rcases hs2 with ⟨z, hz⟩ | hs2
    · cases hz
    · cases ins <;> first | (simp [sp] at hs2; done) | skip
      case new a =>
        simp only [st1] at hs9
        split at hs9
        · split at hs9
          · exact (go_inj' hs9).elim
          · cases hs9
        · rename_i E9 w1 w2 he
          have hE : E9 = E := by
            unfold throwA at hs9
            repeat' split at hs9
            all_goals first | (cases hs9; done) | (cases hs9; rfl)
          subst hE
          exact ⟨a, _, _, rfl, he, hs9⟩
        · cases hs9
      all_goals
        exfalso
        simp only [st1, invA, callA, go] at hs9
        repeat' split at hs9
        all_goals simp at hs9
  obtain ⟨a, w1, w2, rfl, he4, hth⟩ := key
  cases Nat.eq_of_beq_eq_true hlen
  have hent := ent_use ent_ok4 x11 he4
  unfold eOK at hent
  simp only at hent
  split at hent
  · rename_i o i' C q9 hlk hq9
    simp only [Bool.and_eq_true, beq_iff_eq] at hent
    obtain ⟨⟨k1, k2⟩, k3⟩ := hent
    rw [k1, k2, k3] at hlk
    clear k1 k2 k3
    have hk4 : (Cond.classLink (mOwn mi) a q9.1).before args s = true := okw_use hk.2.2.2.1 (tb2_of hlk) rfl args
    unfold throwA at hth
    split at hth
    · rename_i hcc
      obtain ⟨hHH, h8⟩ := hcc
      have hnil : c.exceptionTable.toList = [] := by rw [htab, hHH]; rfl
      have hout : ∀ (z : Nat), ∀ x ∈ c.exceptionTable.toList, covers x z = false := fun z x hx => by rw [hnil] at hx; cases hx
      have hwt : (vs.map fun v => v.category).sum ≤ 8 := by rw [hv.wt hk.1]; exact h8
      have hstrs : ∀ {b w3 w4 w5 : Nat}, rs (mCn mi) b = some (8, w3, w4, w5) → ∃ tx sa, vk_R (mOwn mi) b tx sa s := by
        intro b w3 w4 w5 hb
        have hent8 := ent_use ent_ok8 x11 hb
        unfold eOK at hent8
        simp only at hent8
        split at hent8
        · rename_i o8 i8 tx hw8
          simp only [Bool.and_eq_true, beq_iff_eq] at hent8
          obtain ⟨rfl, rfl⟩ := hent8
          obtain ⟨sa, hsa⟩ := hk.2.2.2.2.1 _ _ tx (tb2_of hw8)
          exact ⟨tx, sa, hsa⟩
        · cases hent8
      have hq : ∀ {b w3 w4 : Nat}, rs (mCn mi) b = some (9, E, w3, w4) → (if E = 5 then q9.1 = ns_X ∧ ∀ w ∈ (ns_ws (mOwn mi) b).filter vx_no, wOK w = true else ∀ w ∈ vx_atS (mOwn mi) b q9.1 q9.2, wOK w = true) ∧ Bundle.fit q9.1 = true ∧ (∀ n ∈ q9.2, Bundle.fit n = true) ∧ q9.2.length = 2 ∧ lw_tbl.contains (.initialized q9.1) = true := by
        intro b w3 w4 hb
        obtain ⟨q8, hq8, r⟩ := thr_use x11 hb
        cases hq8.symm.trans hq9
        exact r
      split at hth
      · rename_i a8 e3 e4
        split at hth
        · rename_i b x8 e6 e9 e8
          split at hth
          · rename_i E9 x9 e10
            split at hth
            · rename_i hEE
              subst hEE
              cases hth
              obtain ⟨tx, sa, hsa⟩ := hstrs (w3 := x8.1) (w4 := x8.2.1) (w5 := x8.2.2) e8
              obtain ⟨r1, r2, r3, r4, r5⟩ := hq (w3 := x9.1) (w4 := x9.2) e10
              have hini := hk.word r5 rfl args
              by_cases hE5 : E9 = 5
              · rw [if_pos hE5] at r1
                obtain ⟨r6, r7⟩ := r1
                obtain ⟨nm, nms⟩ := q9
                have r6 : nm = ns_X := r6
                subst r6
                exact ns_throwS x1 x2 hl9 x4 hk4 hini hsa (fun w hw => (wOK_at hk (r7 w hw) args).1) (fun w hw => by
                  rcases List.mem_cons.mp hw with rfl | hw
                  · rfl
                  · rcases List.mem_cons.mp hw with rfl | hw
                    · rfl
                    · exact (wOK_at hk (r7 w hw) args).2) hk.2.2.1.2.2.2.2.1 hk.2.2.1.2.2.2.2.2 hr.2.2.2.1 (by rw [x3]; exact hls) hd e3 e4 e6 e9 (hout _) (by omega) (by omega) hroom.1 hroom.2 x6 (fun t h1 h2 h3 => hx2 _ nms t hq9 rfl h1 h2 h3) hf hc hs
              · rw [if_neg hE5] at r1
                exact vx_throwS x1 x2 hl9 x4 r2 r3 hk4 hini hsa (fun w hw => (wOK_at hk (r1 w hw) args).1) (fun w hw => by
                  rcases List.mem_cons.mp hw with rfl | hw
                  · rfl
                  · rcases List.mem_cons.mp hw with rfl | hw
                    · rfl
                    · exact (wOK_at hk (r1 w hw) args).2) hk.2.2.1.2.2.2.2.1 hk.2.2.1.2.2.2.2.2 hr.2.2.2.1 (by rw [x3]; exact hls) hd e3 e4 e6 e9 (hout _) (by omega) (by rw [r4]; omega) hroom.1 hroom.2 x6 (fun t h1 h2 h3 => hx2 _ q9.2 t hq9 rfl h1 h2 h3) hf hc hs
            · cases hth
          · cases hth
        · cases hth
      · rename_i a8 e3 e4
        split at hth
        · rename_i b x8 e6 e9 e8
          split at hth
          · rename_i E9 x9 e10
            split at hth
            · rename_i hEE
              subst hEE
              cases hth
              obtain ⟨tx, sa, hsa⟩ := hstrs (w3 := x8.1) (w4 := x8.2.1) (w5 := x8.2.2) e8
              obtain ⟨r1, r2, r3, r4, r5⟩ := hq (w3 := x9.1) (w4 := x9.2) e10
              have hini := hk.word r5 rfl args
              by_cases hE5 : E9 = 5
              · rw [if_pos hE5] at r1
                obtain ⟨r6, r7⟩ := r1
                obtain ⟨nm, nms⟩ := q9
                have r6 : nm = ns_X := r6
                subst r6
                exact ns_throwSW x1 x2 hl9 x4 hk4 hini hsa (fun w hw => (wOK_at hk (r7 w hw) args).1) (fun w hw => by
                  rcases List.mem_cons.mp hw with rfl | hw
                  · rfl
                  · rcases List.mem_cons.mp hw with rfl | hw
                    · rfl
                    · exact (wOK_at hk (r7 w hw) args).2) hk.2.2.1.2.2.2.2.1 hk.2.2.1.2.2.2.2.2 hr.2.2.2.1 (by rw [x3]; exact hls) hd e3 e4 e6 e9 (hout _) (by omega) (by omega) hroom.1 hroom.2 x6 (fun t h1 h2 h3 => hx2 _ nms t hq9 rfl h1 h2 h3) hf hc hs
              · rw [if_neg hE5] at r1
                exact vx_throwSW x1 x2 hl9 x4 r2 r3 hk4 hini hsa (fun w hw => (wOK_at hk (r1 w hw) args).1) (fun w hw => by
                  rcases List.mem_cons.mp hw with rfl | hw
                  · rfl
                  · rcases List.mem_cons.mp hw with rfl | hw
                    · rfl
                    · exact (wOK_at hk (r1 w hw) args).2) hk.2.2.1.2.2.2.2.1 hk.2.2.1.2.2.2.2.2 hr.2.2.2.1 (by rw [x3]; exact hls) hd e3 e4 e6 e9 (hout _) (by omega) (by rw [r4]; omega) hroom.1 hroom.2 x6 (fun t h1 h2 h3 => hx2 _ q9.2 t hq9 rfl h1 h2 h3) hf hc hs
            · cases hth
          · cases hth
        · cases hth
      · cases hth
    · cases hth
  · cases hent
theorem idx_ne {T a x y w : Nat} (hx : FX p s m meth c R mi) (he : rs (mCn mi) a = some (T, x, y, w)) : a ≠ 0 := by
  obtain ⟨x1, x2, x3, x4, x5, x6, x7, x8, x9, x10, es, x11⟩ := hx
  unfold rs at he
  rw [x11] at he
  have hm := lookup_mem (show es.lookup a = some (T, x, y, w) from he)
  have h1 := List.all_eq_true.mp (List.all_eq_true.mp idx_ok (mOwn mi, es) (List.mem_of_getElem? x11)) _ hm
  intro h0
  subst h0
  cases h1
theorem exc_row {E a w1 w2 : Nat} (hx : FX p s m meth c R mi) (hk : KC kv sc A s s.heap) (he : rs (mCn mi) a = some (4, E, w1, w2)) : ∃ q, EXl[E]? = some q ∧ (Cond.classLink (mOwn mi) a q.1).before args s = true := by
  obtain ⟨x1, x2, x3, x4, x5, x6, x7, x8, x9, x10, es, x11⟩ := hx
  have hent := ent_use ent_ok4 x11 he
  unfold eOK at hent
  simp only at hent
  split at hent
  · rename_i o i' C q9 hlk hq9
    simp only [Bool.and_eq_true, beq_iff_eq] at hent
    obtain ⟨⟨rfl, rfl⟩, rfl⟩ := hent
    exact ⟨q9, hq9, okw_use hk.2.2.2.1 (tb2_of hlk) rfl args⟩
  · cases hent
/-- a row that names another class -/
theorem pass_row {E E' a w1 w2 : Nat} {nm : String} {nms : List String} (hx : FX p s m meth c R mi) (hk : KC kv sc A s s.heap) (hE : EXl[E]? = some (nm, nms)) (he : rs (mCn mi) a = some (4, E', w1, w2)) (hne : E ≠ E') (h0 : a ≠ 0) : a ≠ 0 ∧ ∃ n9 : String, (Cond.classLink (mOwn mi) a n9).before args s = true ∧ va_Nc nm n9 s := by
  obtain ⟨q, hq, hl⟩ := exc_row (args := args) hx hk he
  exact ⟨h0, q.1, hl, hk.2.2.2.2.2 E E' (nm, nms) q hE hq hne⟩
/-- rows of a table that do not take E -/
theorem hnd_pass {E : Nat} {nm : String} {nms : List String} (hx : FX p s m meth c R mi) (hk : KC kv sc A s s.heap) (hE : EXl[E]? = some (nm, nms)) : ∀ hh : List (Nat × Nat × Nat × Nat), hnd mi pc E hh = some none → ∀ z ∈ tableOf hh, covers z pc = false ∨ (z.catchType ≠ 0 ∧ ∃ n9 : String, (Cond.classLink (mOwn mi) z.catchType n9).before args s = true ∧ va_Nc nm n9 s) := by
  intro hh
  induction hh with
  | nil => intro _ z hz; cases hz
  | cons r hh ih =>
    intro e9 z hz
    rw [hnd] at e9
    have hz2 : z ∈ (⟨r.1, r.2.1, r.2.2.1, r.2.2.2⟩ : ExceptionTableEntry) :: tableOf hh := hz
    split at e9
    · rename_i hcov
      split at e9
      · rename_i E' x he
        split at e9
        · repeat' split at e9
          all_goals cases e9
        · rename_i hne
          rcases List.mem_cons.mp hz2 with rfl | hz3
          · right
            exact pass_row hx hk hE (w1 := x.1) (w2 := x.2) he (fun z => hne z.symm) (idx_ne hx he)
          · exact ih e9 z hz3
      · cases e9
    · rename_i hcov
      rcases List.mem_cons.mp hz2 with rfl | hz3
      · left
        show (decide (r.1 ≤ pc) && decide (pc < r.2.1)) = false
        rw [Bool.and_eq_false_iff]
        by_cases h1 : r.1 ≤ pc
        · right
          simp only [decide_eq_false_iff_not]
          exact fun h2 => hcov ⟨h1, h2⟩
        · left
          simp only [decide_eq_false_iff_not]
          exact h1
      · exact ih e9 z hz3
end
