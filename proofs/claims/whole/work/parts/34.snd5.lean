/-! SOUNDNESS 5: entries of the pools; fields and rows -/
theorem lookup_mem {α : Type} : ∀ {l : List (Nat × α)} {i : Nat} {e : α}, l.lookup i = some e → (i, e) ∈ l
  | [], _, _, h => by simp at h
  | (j, x) :: l, i, e, h => by
    rw [List.lookup_cons] at h
    by_cases hij : i == j
    · simp [hij] at h
      have := beq_iff_eq.mp hij
      subst this; subst h
      exact List.mem_cons_self
    · simp [hij] at h
      exact List.mem_cons_of_mem _ (lookup_mem h)
theorem ent_use {T : Nat} (hT : RTl.all (fun r => r.2.all (fun e => !Nat.beq e.2.1 T || eOK r.1 e)) = true) {cn a x y w : Nat} {own : String} {es : List (Nat × Nat × Nat × Nat × Nat)} (hes : RTl[cn]? = some (own, es)) (h : rs cn a = some (T, x, y, w)) : eOK own (a, T, x, y, w) = true := by
  unfold rs at h
  rw [hes] at h
  have hm := lookup_mem (show es.lookup a = some (T, x, y, w) from h)
  have h1 := List.all_eq_true.mp (List.all_eq_true.mp hT (own, es) (List.mem_of_getElem? hes)) _ hm
  have hb : Nat.beq T T = true := Nat.beq_refl T
  simpa [hb] using h1
theorem lnkF_sp {own r n d : String} {i : Nat} {w : Option Cond} (h : lnkF own i r n d w = true) : w = some (.fieldLink own i r n d) ∨ ∃ host, w = some (.fieldLinkNest own i r n d host) := by
  unfold lnkF at h
  split at h
  · simp only [Bool.and_eq_true, beq_iff_eq] at h
    obtain ⟨⟨⟨⟨rfl, rfl⟩, rfl⟩, rfl⟩, rfl⟩ := h
    exact Or.inl rfl
  · rename_i host
    simp only [Bool.and_eq_true, beq_iff_eq] at h
    obtain ⟨⟨⟨⟨rfl, rfl⟩, rfl⟩, rfl⟩, rfl⟩ := h
    exact Or.inr ⟨host, rfl⟩
  · cases h
theorem okv_fl (own r n d : String) (i : Nat) : okv (.fieldLink own i r n d) = true := rfl
theorem okv_fn (own r n d host : String) (i : Nat) : okv (.fieldLinkNest own i r n d host) = true := rfl
theorem KC.hts {kv : Nat → Value} {sc : SC} {A : Nat → Prop} {s : State} (hk : KC kv sc A s s.heap) (args : Array Value) : ∀ w ∈ TS, w.before args s = true := fun w hw => okw_use hk.2.2.2.1 (List.mem_filter.mp hw).1 (List.mem_filter.mp hw).2 args
theorem vw_lt {c : Nat} {r : vw_C} (h : vwCl[c]? = some r) : c < 13 := by
  have h1 := (List.getElem?_eq_some_iff.mp h).1
  rw [ft_len.2] at h1
  exact h1
theorem fld_dyn {own : String} {a c k w : Nat} {r : vw_C} (h : eOK own (a, 0, c, k, w) = true) (hc : vwCl[c]? = some r) : k < r.2.2 ∧ (Cond.fieldLink own a (r.2.1 k).1 (r.2.1 k).2.1 (r.2.1 k).2.2.1 ∈ lw_tb2 ∨ ∃ host, tables_1[w]? = some (Cond.fieldLinkNest own a (r.2.1 k).1 (r.2.1 k).2.1 (r.2.1 k).2.2.1 host)) := by
  have hlt := vw_lt hc
  unfold eOK at h
  simp only [if_neg (show ¬ c = 100 by omega), if_neg (show ¬ c = 101 by omega), hc, Bool.and_eq_true] at h
  refine ⟨Nat.le_of_ble_eq_true h.1, ?_⟩
  rcases lnkF_sp h.2 with e | ⟨host, e⟩
  · exact Or.inl (tb2_of e)
  · exact Or.inr ⟨host, e⟩
theorem fld_con {own : String} {a c k w : Nat} (h : eOK own (a, 0, c, k, w) = true) (hc : c = 100 ∨ c = 101) : ∃ f, (if c = 100 then KFl else SFl)[k]? = some f ∧ (Cond.fieldLink own a f.1 f.2.1 f.2.2 ∈ lw_tb2 ∨ ∃ host, Cond.fieldLinkNest own a f.1 f.2.1 f.2.2 host ∈ lw_tb2) := by
  unfold eOK at h
  by_cases hc1 : c = 100
  · simp only [if_pos hc1] at h ⊢
    split at h
    · rename_i f hf
      refine ⟨f, hf, ?_⟩
      rcases lnkF_sp h with e | ⟨host, e⟩
      · exact Or.inl (tb2_of e)
      · exact Or.inr ⟨host, tb2_of e⟩
    · cases h
  · simp only [if_neg hc1, if_pos (hc.resolve_left hc1)] at h ⊢
    split at h
    · rename_i f hf
      refine ⟨f, hf, ?_⟩
      rcases lnkF_sp h with e | ⟨host, e⟩
      · exact Or.inl (tb2_of e)
      · exact Or.inr ⟨host, tb2_of e⟩
    · cases h
theorem fn_ok : (vwCl.zip FNl).all (fun q => Nat.beq q.2.length q.1.2.2 && (List.range q.1.2.2).all (fun k => q.2.getD k true == (q.1.2.1 k).2.2.2)) = true := by decide +kernel
theorem ini_ok : MTl.all (fun mi => Nat.beq (mIni mi) 999 || (decide ((mY mi).name = "<init>") && (match vwCl[mIni mi]? with | some r => (List.range r.2.2).all (fun k => !(r.2.1 k).2.2.2 || decide ((r.2.1 k).1 = mOwn mi)) | none => true))) = true := by decide +kernel
theorem nest_ok : RTl.all (fun r => r.2.all (fun e => !Nat.beq e.2.1 0 || (match tables_1[e.2.2.2.2]? with | some (.fieldLinkNest o _ r' _ _ _) => decide (o ≠ r') | _ => true))) = true := by decide +kernel
theorem fin_sp {mi : MI} {c k : Nat} {r : vw_C} (hmi : mi ∈ MTl) (hfo : finOK mi c k = true) (hc : vwCl[c]? = some r) (hk : k < r.2.2) (hf : (r.2.1 k).2.2.2 = true) : (mY mi).name = "<init>" ∧ (r.2.1 k).1 = mOwn mi := by
  have hlt := vw_lt hc
  have hFN : FNl.length = 13 := by decide
  have hz : (vwCl.zip FNl)[c]? = some (r, FNl.getD c []) := by
    rw [List.getElem?_zip_eq_some]
    refine ⟨hc, ?_⟩
    rw [List.getD_eq_getElem?_getD, List.getElem?_eq_getElem (by omega)]
    rfl
  have h1 := List.all_eq_true.mp fn_ok _ (List.mem_of_getElem? hz)
  simp only [Bool.and_eq_true] at h1
  have h2 := List.all_eq_true.mp h1.2 k (List.mem_range.mpr hk)
  rw [hf] at h2
  have h3 : (FNl.getD c []).getD k true = true := by simpa using h2
  unfold finOK at hfo
  rw [h3] at hfo
  have h4 : mIni mi = c := Nat.eq_of_beq_eq_true (by simpa using hfo)
  have h5 := List.all_eq_true.mp ini_ok mi hmi
  have h6 : Nat.beq (mIni mi) 999 = false := by
    cases hb : Nat.beq (mIni mi) 999
    · rfl
    · have := Nat.eq_of_beq_eq_true hb
      omega
  rw [h6] at h5
  simp only [Bool.false_or, Bool.and_eq_true, decide_eq_true_eq, h4, hc] at h5
  refine ⟨h5.1, ?_⟩
  have h7 := List.all_eq_true.mp h5.2 k (List.mem_range.mpr hk)
  rw [hf] at h7
  simpa using h7
theorem nest_sp {cn a c k w : Nat} {own host : String} {es : List (Nat × Nat × Nat × Nat × Nat)} {r : vw_C} (hes : RTl[cn]? = some (own, es)) (h : rs cn a = some (0, c, k, w)) (hc : vwCl[c]? = some r) (hlk : tables_1[w]? = some (Cond.fieldLinkNest own a (r.2.1 k).1 (r.2.1 k).2.1 (r.2.1 k).2.2.1 host)) : ¬ (r.2.1 k).1 = own := by
  unfold rs at h
  rw [hes] at h
  have hm := lookup_mem (show es.lookup a = some (0, c, k, w) from h)
  have h1 := List.all_eq_true.mp (List.all_eq_true.mp nest_ok (own, es) (List.mem_of_getElem? hes)) _ hm
  simp only [hlk] at h1
  intro e
  have h2 : ¬ own = (r.2.1 k).1 := by simpa using h1
  exact h2 e.symm
section
variable {p : Program} {l : Launch} {e : Env} {R : Room} {s : State} {m : MethodId} {args : Array Value} {below : List Frame} {meth : Method} {c : Code} {Q : State → Prop}
variable {mi : MI} {sc : SC} {A : Nat → Prop} {D : va_G} {dA : Nat → ClassId} {kv : Nat → Value} {c0 s0 : Nat}
variable {pc : Nat} {L : List AV} {dl : DL} {st : List AV} {h : AH} {ls : Array Slot} {vs : List Value} {H : Heap} {locs : List Loc} {cells slots : Nat} {q : Nat → Nat} {ws : va_W} {cf : Cfg}
/-- an object that was made, as the world has it -/
theorem HR.obj {o : AO} {k : Nat} (hr : HR A D dA q kv s H locs h.1 ws) (ho : hget h k = some o) : ∃ e, ws[k]? = some (q k, e) ∧ Er q kv dA h.1.length o e := hr.2.2.2.2.2.get ho
theorem w_getfield {a c9 k9 w9 : Nat} {v w : AV} {r : List AV} (hx : FX p s m meth c R mi) (hk : KC kv sc A s s.heap) (hd : decode (mB mi) pc = .ok (.getfield a, 3)) (he : rs (mCn mi) a = some (0, c9, k9, w9)) (hg : getF sc h v c9 k9 = some w) (hu : aUnk w = false)
    (hr : HR A D dA q kv s H locs h.1 ws) (hl : LR q kv h.1.length ls (mL mi) L dl) (hv : VL q kv h.1.length (v :: r) vs) (hc : cells + c0 = costC h) (hs : slots + s0 = costS h) (kk : KK p l e R s m args below meth c Q mi A D dA kv c0 s0 h.1.length q (pc + 3, L, dl, w :: r, h)) : W p l e R s m args below meth c H locs cells slots Q (F0 m pc ls vs) := by
  obtain ⟨x1, x2, x3, x4, x5, x6, x7, x8, x9, x10, es, x11⟩ := hx
  have hent := ent_use ent_ok0 x11 he
  obtain ⟨x, xs, rfl, hv1, hv2⟩ := hv.cons
  unfold getF at hg
  rcases v with i | pp | kc | u | i | i | i | u
  all_goals first | (simp [oget] at hg; done) | skip
  · -- an object that was made
    obtain ⟨hp, rfl⟩ := hv1
    simp only [oget] at hg
    split at hg
    · rename_i c' fs ho
      split at hg
      · rename_i hcc
        subst hcc
        obtain ⟨e9, hw, vs9, rfl, hvl, ⟨r9, hc9, hn9⟩, hm9⟩ := hr.obj ho
        obtain ⟨hk9, hlk⟩ := fld_dyn hent hc9
        obtain ⟨y, hy, hyr⟩ := hvl.get hg
        obtain ⟨hP, hK, hD, hS, hA, hW⟩ := hr
        rcases hlk with hlk | ⟨host, hlk⟩
        · exact va_get (D := D) (ci := c') (v := y) (C := r9.1) (T := r9.2.1) (N := r9.2.2) x1 x2 (hk.hts args) (ws_in hm9 hc9) x4 hK hP pp hw hc9 k9 hk9 (okw_use hk.2.2.2.1 hlk rfl args) (fun _ z => z) hy hd (kk0 kk ⟨hP, hK, hD, hS, hA, hW⟩ hc hs hl ⟨hyr, hv2⟩)
        · exact va_getN (D := D) (ci := c') (v := y) (C := r9.1) (T := r9.2.1) (N := r9.2.2) x1 x2 (hk.hts args) (ws_in hm9 hc9) x4 hK hP pp hw hc9 k9 hk9 (okw_use hk.2.2.2.1 (tb2_of hlk) rfl args) (fun _ z => z) hy hd (kk0 kk ⟨hP, hK, hD, hS, hA, hW⟩ hc hs hl ⟨hyr, hv2⟩)
      · cases hg
    · cases hg
  · -- a constant
    have hx2 : x = kv kc := hv1
    simp only [oget] at hg
    split at hg
    · rename_i c' fs ho
      split at hg
      · rename_i hcc
        subst hcc
        obtain ⟨hcc, a9, ha9, hO, hF⟩ := hk.2.2.1.2.1 kc c' fs ho
        obtain ⟨f9, hf9, hlk⟩ := fld_con hent hcc
        have hof : va_OF f9.1 f9.2.1 f9.2.2 (kval kv w) a9 A s s.heap := by
          rcases hF k9 f9 w hf9 hg with ⟨z, -⟩ | ⟨-, -, z⟩ <;> exact z
        have hval : Vr q kv h.1.length w (kval kv w) := by
          rcases hF k9 f9 w hf9 hg with ⟨-, z, rfl⟩ | ⟨z, rfl, -⟩ <;> rfl
        rw [hx2, ha9]
        rcases hlk with hlk | ⟨host, hlk⟩
        · exact vk_getf x1 x2 hof hr.2.2.2.1 x4 (okw_use hk.2.2.2.1 hlk rfl args) (fun _ z => z) hd (kk0 kk hr hc hs hl ⟨hval, hv2⟩)
        · obtain ⟨cf9, k9, fi9, ff9, cell9, g1, g2, g3, g4, g5, g6⟩ := hof.kept hr.2.2.2.1.2.1
          exact va_Wgetf x1 x2 x4 (okw_use hk.2.2.2.1 hlk rfl args) g1 g2 g3 g4 (v := kval kv w) g5 rfl rfl hd (kk0 kk hr hc hs hl ⟨hval, hv2⟩)
      · cases hg
    · cases hg
theorem w_putfield {a c9 k9 w9 t9 pp : Nat} {ts : List Nat} {v : AV} {r : List AV} {h' : AH} (hx : FX p s m meth c R mi) (hk : KC kv sc A s s.heap) (hd : decode (mB mi) pc = .ok (.putfield a, 3)) (he : rs (mCn mi) a = some (0, c9, k9, w9)) (ht : FTl[c9]? = some ts) (ht2 : ts[k9]? = some t9) (hg : putF h pp c9 k9 t9 v = some h')
    (hmi : mi ∈ MTl) (hfo : finOK mi c9 k9 = true)
    (hr : HR A D dA q kv s H locs h.1 ws) (hl : LR q kv h.1.length ls (mL mi) L dl) (hv : VL q kv h.1.length (v :: aD pp :: r) vs) (hc : cells + c0 = costC h) (hs : slots + s0 = costS h) (kk : KK p l e R s m args below meth c Q mi A D dA kv c0 s0 h.1.length q (pc + 3, L, dl, r, h')) : W p l e R s m args below meth c H locs cells slots Q (F0 m pc ls vs) := by
  obtain ⟨x1, x2, x3, x4, x5, x6, x7, x8, x9, x10, es, x11⟩ := hx
  have hent := ent_use ent_ok0 x11 he
  obtain ⟨x, xs, rfl, hv1, hv2⟩ := hv.cons
  obtain ⟨ys, rfl, hpp, hv3⟩ := hv2.D
  unfold putF at hg
  split at hg
  · rename_i c' fs ho
    split at hg
    · rename_i hcc
      obtain ⟨rfl, hkl, hfit⟩ := hcc
      cases hg
      obtain ⟨e9, hw, vs9, rfl, hvl, ⟨r9, hc9, hn9⟩, hm9⟩ := hr.obj ho
      obtain ⟨hk9, hlk⟩ := fld_dyn hent hc9
      obtain ⟨-, -, hft⟩ := ftK hc9 ht ht2
      obtain ⟨hnar, hfi⟩ := narrow_fit hk.1 hft hfit hv1
      obtain ⟨hP, hK, hD, hS, hA, hW⟩ := hr
      have hlen : k9 < vs9.length := by rw [hvl.len]; exact hkl
      have hpl : pp < h.1.length := hpp
      have goal : ∀ (H1 : Heap) (locs1 : List Loc), va_P D vwCl (ws.set pp (q pp, .inr (c', vs9.set k9 x))) H1 → va_D A (ws.set pp (q pp, .inr (c', vs9.set k9 x))) → va_S A s.heap H1 locs1 → W p l e R s m args below meth c H1 locs1 cells slots Q (F0 m (pc + 3) ls ys) := by
        intro H1 locs1 g1 g2 g3
        have hs0 : osize (oO c' fs) = osize (oO c' (fs.set k9 v)) := by simp [osize]
        refine kk q _ ls ys H1 locs1 cells slots (fun _ _ => rfl) ⟨g1, hK, g2, g3, hA, ?_⟩ ?_ ?_ ?_ ?_
        · show WR q kv dA (h.1.set pp _) _
          exact hW.set hpl ⟨_, rfl, hvl.set hv1, ⟨r9, hc9, by simp [hn9]⟩, hm9⟩
        · show LR q kv (h.1.set pp _).length ls (mL mi) L dl
          rw [List.length_set]; exact hl
        · show VL q kv (h.1.set pp _).length r ys
          rw [List.length_set]; exact hv3
        · show cells + c0 = (h.1.set pp _).length + h.2
          rw [List.length_set]; exact hc
        · show slots + s0 = ((h.1.set pp (oO c' (fs.set k9 v))).map osize).sum + 6 * h.2
          have : (h.1.set pp (oO c' (fs.set k9 v))).map osize = h.1.map osize := by
            rw [List.map_set]
            refine List.ext_getElem? fun j => ?_
            by_cases hj : pp = j
            · subst hj
              rw [List.getElem?_set_self (by simpa using hpl), List.getElem?_map, show h.1[pp]? = some (oO c' fs) from ho]
              simp [hs0]
            · rw [List.getElem?_set_ne hj]
          rw [this]; exact hs
      by_cases hfin : (r9.2.1 k9).2.2.2 = true
      · obtain ⟨hi1, hdecl⟩ := fin_sp hmi hfo hc9 hk9 hfin
        have hi : meth.name = "<init>" := x10 hi1
        rcases hlk with hlk | ⟨host, hlk⟩
        · exact va_putF (D := D) (ci := c') (v := x) (ty := tyK r9 k9) (C := r9.1) (T := r9.2.1) (N := r9.2.2) x1 x2 (hk.hts args) (ws_in hm9 hc9) (tyK r9) (tyK_ok hc9) (nmK_ok hc9) x4 hK hP hD hS pp hw hc9 k9 hk9 (okw_use hk.2.2.2.1 hlk rfl args) (fun _ z => z) hfin hi hdecl (tyK_ok hc9 k9 hk9) hnar hfi hlen hd goal
        · exact absurd hdecl (nest_sp x11 he hc9 hlk)
      · have hfin2 : (r9.2.1 k9).2.2.2 = false := by simpa using hfin
        rcases hlk with hlk | ⟨host, hlk⟩
        · exact va_put (D := D) (ci := c') (v := x) (ty := tyK r9 k9) (C := r9.1) (T := r9.2.1) (N := r9.2.2) x1 x2 (hk.hts args) (ws_in hm9 hc9) (tyK r9) (tyK_ok hc9) (nmK_ok hc9) x4 hK hP hD hS pp hw hc9 k9 hk9 (okw_use hk.2.2.2.1 hlk rfl args) (fun _ z => z) hfin2 (tyK_ok hc9 k9 hk9) hnar hfi hlen hd goal
        · exact va_putN (D := D) (ci := c') (v := x) (ty := tyK r9 k9) (C := r9.1) (T := r9.2.1) (N := r9.2.2) x1 x2 (hk.hts args) (ws_in hm9 hc9) (tyK r9) (tyK_ok hc9) (nmK_ok hc9) x4 hK hP hD hS pp hw hc9 k9 hk9 (okw_use hk.2.2.2.1 (tb2_of hlk) rfl args) (fun _ z => z) hfin2 (tyK_ok hc9 k9 hk9) hnar hfi hlen hd goal
    · cases hg
  · cases hg
end
