/-! SOUNDNESS 1: what a machine's heap, locals and stack have to do with the abstract ones -/
def Vr (q : Nat → Nat) (kv : Nat → Value) (n : Nat) (v : AV) (x : Value) : Prop := match v with
  | .inl i => x = .int i
  | .inr (.inl p) => p < n ∧ x = .ref (q p)
  | .inr (.inr (.inl k)) => x = kv k
  | .inr (.inr (.inr (.inl _))) => x = .null
  | .inr (.inr (.inr (.inr (.inl i)))) => x = .long i
  | .inr (.inr (.inr (.inr (.inr (.inl i))))) => x = .double i
  | .inr (.inr (.inr (.inr (.inr (.inr (.inl i)))))) => x = .float i
  | .inr (.inr (.inr (.inr (.inr (.inr (.inr _)))))) => x = .null ∨ ∃ a, x = .ref a
def VL (q : Nat → Nat) (kv : Nat → Value) (n : Nat) : List AV → List Value → Prop
  | [], [] => True
  | v :: vs, x :: xs => Vr q kv n v x ∧ VL q kv n vs xs
  | _, _ => False
/-- constants are references -/
def KV (kv : Nat → Value) : Prop := ∀ k, ∃ a, kv k = .ref a
def Er (q : Nat → Nat) (kv : Nat → Value) (dA : Nat → ClassId) (n : Nat) (o : AO) (e : va_E) : Prop := match o with
  | .inl (c, fs) => ∃ vs, e = .inr (c, vs) ∧ VL q kv n fs vs ∧ (∃ r : vw_C, vwCl[c]? = some r ∧ r.2.2 = fs.length) ∧ (c = 1 ∨ 4 ≤ c)
  | .inr (.inl (t, m, f)) => t < 4 ∧ m ≤ 67108864 ∧ e = .inl (dA t, m, .inl f)
  | .inr (.inr (.inl (m, f))) => m ≤ 67108864 ∧ e = .inl (dA 4, m, .inr (.inl f))
  | .inr (.inr (.inr (.inl (m, f)))) => m ≤ 67108864 ∧ e = .inl (dA 5, m, .inr (.inr (.inr (.inl f))))
  | .inr (.inr (.inr (.inr (m, f)))) => m ≤ 67108864 ∧ ∃ g : Nat → Option Nat, e = .inl (dA 6, m, .inr (.inr (.inr (.inr g)))) ∧ ∀ i, Vr q kv n (f i) (va_rf (g i))
def WR (q : Nat → Nat) (kv : Nat → Value) (dA : Nat → ClassId) (h : List AO) (ws : va_W) : Prop := ws.length = h.length ∧ ∀ k o, h[k]? = some o → ∃ e, ws[k]? = some (q k, e) ∧ Er q kv dA h.length o e
theorem Vr.mono {q q' : Nat → Nat} {kv : Nat → Value} {n n' : Nat} {v : AV} {x : Value} (hn : n ≤ n') (hq : ∀ k, k < n → q' k = q k) (h : Vr q kv n v x) : Vr q' kv n' v x := by
  rcases v with i | p | k | u | i | i | i | u
  · exact h
  · obtain ⟨h1, h2⟩ := h
    exact ⟨Nat.lt_of_lt_of_le h1 hn, by rw [hq p h1]; exact h2⟩
  all_goals exact h
theorem VL.mono {q q' : Nat → Nat} {kv : Nat → Value} {n n' : Nat} (hn : n ≤ n') (hq : ∀ k, k < n → q' k = q k) : ∀ {vs : List AV} {xs : List Value}, VL q kv n vs xs → VL q' kv n' vs xs
  | [], [], _ => trivial
  | _ :: _, _ :: _, h => ⟨h.1.mono hn hq, VL.mono hn hq h.2⟩
  | [], _ :: _, h => h.elim
  | _ :: _, [], h => h.elim
theorem VL.len {q : Nat → Nat} {kv : Nat → Value} {n : Nat} : ∀ {vs : List AV} {xs : List Value}, VL q kv n vs xs → xs.length = vs.length
  | [], [], _ => rfl
  | _ :: _, _ :: _, h => by simp [VL.len h.2]
  | [], _ :: _, h => h.elim
  | _ :: _, [], h => h.elim
theorem VL.get {q : Nat → Nat} {kv : Nat → Value} {n : Nat} : ∀ {vs : List AV} {xs : List Value} {k : Nat} {v : AV}, VL q kv n vs xs → vs[k]? = some v → ∃ x, xs[k]? = some x ∧ Vr q kv n v x
  | [], [], k, v, _, e => by simp at e
  | _ :: _, x :: _, 0, v, h, e => by
    simp at e
    subst e
    exact ⟨x, rfl, h.1⟩
  | _ :: vs, _ :: xs, k + 1, v, h, e => by
    have := VL.get (k := k) h.2 (by simpa using e)
    simpa using this
  | [], _ :: _, _, _, h, _ => h.elim
  | _ :: _, [], _, _, h, _ => h.elim
theorem VL.set {q : Nat → Nat} {kv : Nat → Value} {n : Nat} {v : AV} {x : Value} (hv : Vr q kv n v x) : ∀ {vs : List AV} {xs : List Value} {k : Nat}, VL q kv n vs xs → VL q kv n (vs.set k v) (xs.set k x)
  | [], [], _, h => h
  | _ :: _, _ :: _, 0, h => ⟨hv, h.2⟩
  | _ :: _, _ :: _, k + 1, h => ⟨h.1, VL.set hv (k := k) h.2⟩
  | [], _ :: _, _, h => h.elim
  | _ :: _, [], _, h => h.elim
theorem VL.app {q : Nat → Nat} {kv : Nat → Value} {n : Nat} : ∀ {a : List AV} {x : List Value} {b : List AV} {y : List Value}, VL q kv n a x → VL q kv n b y → VL q kv n (a ++ b) (x ++ y)
  | [], [], _, _, _, h => h
  | _ :: _, _ :: _, _, _, h1, h2 => ⟨h1.1, VL.app h1.2 h2⟩
  | [], _ :: _, _, _, h, _ => h.elim
  | _ :: _, [], _, _, h, _ => h.elim
theorem VL.rev {q : Nat → Nat} {kv : Nat → Value} {n : Nat} : ∀ {a : List AV} {x : List Value}, VL q kv n a x → VL q kv n a.reverse x.reverse
  | [], [], _ => trivial
  | _ :: _, _ :: _, h => by
    rw [List.reverse_cons, List.reverse_cons]
    exact VL.app (VL.rev h.2) ⟨h.1, trivial⟩
  | [], _ :: _, h => h.elim
  | _ :: _, [], h => h.elim
theorem VL.take {q : Nat → Nat} {kv : Nat → Value} {n : Nat} : ∀ {a : List AV} {x : List Value} (k : Nat), VL q kv n a x → VL q kv n (a.take k) (x.take k)
  | [], [], k, _ => by simp [VL]
  | _ :: _, _ :: _, 0, _ => trivial
  | _ :: _, _ :: _, k + 1, h => ⟨h.1, VL.take k h.2⟩
  | [], _ :: _, _, h => h.elim
  | _ :: _, [], _, h => h.elim
theorem VL.drop {q : Nat → Nat} {kv : Nat → Value} {n : Nat} : ∀ {a : List AV} {x : List Value} (k : Nat), VL q kv n a x → VL q kv n (a.drop k) (x.drop k)
  | [], [], k, _ => by simp [VL]
  | _ :: _, _ :: _, 0, h => h
  | _ :: _, _ :: _, k + 1, h => VL.drop k h.2
  | [], _ :: _, _, h => h.elim
  | _ :: _, [], _, h => h.elim
theorem Vr.cat {q : Nat → Nat} {kv : Nat → Value} {n : Nat} {v : AV} {x : Value} (hk : KV kv) (h : Vr q kv n v x) : x.category = aCat v := by
  rcases v with i | p | k | u | i | i | i | u
  · cases h; rfl
  · obtain ⟨-, h⟩ := h; cases h; rfl
  · obtain ⟨a, e⟩ := hk k
    have h2 : x = kv k := h
    rw [h2, e]; rfl
  · have h2 : x = .null := h
    rw [h2]; rfl
  · cases h; rfl
  · cases h; rfl
  · cases h; rfl
  · rcases h with h | ⟨a, h⟩ <;> (rw [h]; rfl)
theorem VL.wt {q : Nat → Nat} {kv : Nat → Value} {n : Nat} (hk : KV kv) : ∀ {a : List AV} {x : List Value}, VL q kv n a x → (x.map fun v => v.category).sum = aWt a
  | [], [], _ => rfl
  | _ :: _, _ :: _, h => by
    simp only [aWt, List.map_cons, List.sum_cons]
    rw [h.1.cat hk, VL.wt hk h.2]
    rfl
  | [], _ :: _, h => h.elim
  | _ :: _, [], h => h.elim
theorem Er.mono {q q' : Nat → Nat} {kv : Nat → Value} {dA : Nat → ClassId} {n n' : Nat} {o : AO} {e : va_E} (hn : n ≤ n') (hq : ∀ k, k < n → q' k = q k) (h : Er q kv dA n o e) : Er q' kv dA n' o e := by
  rcases o with ⟨c, fs⟩ | ⟨t, m, f⟩ | ⟨m, f⟩ | ⟨m, f⟩ | ⟨m, f⟩
  · obtain ⟨vs, e1, h1, h2⟩ := h
    exact ⟨vs, e1, h1.mono hn hq, h2⟩
  · exact h
  · exact h
  · exact h
  · obtain ⟨h0, g, e1, h1⟩ := h
    exact ⟨h0, g, e1, fun i => (h1 i).mono hn hq⟩
theorem WR.get {q : Nat → Nat} {kv : Nat → Value} {dA : Nat → ClassId} {h : List AO} {ws : va_W} (hw : WR q kv dA h ws) {k : Nat} {o : AO} (ho : h[k]? = some o) : ∃ e, ws[k]? = some (q k, e) ∧ Er q kv dA h.length o e := hw.2 k o ho
theorem WR.set {q : Nat → Nat} {kv : Nat → Value} {dA : Nat → ClassId} {h : List AO} {ws : va_W} (hw : WR q kv dA h ws) {k : Nat} {o : AO} {e : va_E} (hk : k < h.length) (he : Er q kv dA h.length o e) : WR q kv dA (h.set k o) (ws.set k (q k, e)) := by
  refine ⟨by simp [hw.1], fun j o' hj => ?_⟩
  rw [List.length_set]
  by_cases hjk : j = k
  · subst hjk
    rw [List.getElem?_set_self hk] at hj
    cases hj
    exact ⟨e, by rw [List.getElem?_set_self (by rw [hw.1]; exact hk)], he⟩
  · rw [List.getElem?_set_ne (fun z => hjk z.symm)] at hj
    obtain ⟨e', h1, h2⟩ := hw.2 j o' hj
    exact ⟨e', by rw [List.getElem?_set_ne (fun z => hjk z.symm)]; exact h1, h2⟩
theorem WR.push {q : Nat → Nat} {kv : Nat → Value} {dA : Nat → ClassId} {h : List AO} {ws : va_W} (hw : WR q kv dA h ws) {o : AO} {e : va_E} (a : Nat) (he : Er q kv dA h.length o e) : WR (va_up q h.length a) kv dA (h ++ [o]) (ws ++ [(a, e)]) := by
  have hq : ∀ k, k < h.length → va_up q h.length a k = q k := fun k hk => by
    unfold va_up
    rw [if_neg (by omega)]
  refine ⟨by simp [hw.1], fun j o' hj => ?_⟩
  rw [List.length_append]
  by_cases hjk : j < h.length
  · rw [List.getElem?_append_left hjk] at hj
    obtain ⟨e', h1, h2⟩ := hw.2 j o' hj
    exact ⟨e', by rw [List.getElem?_append_left (by rw [hw.1]; exact hjk), h1, hq j hjk], h2.mono (by simp) hq⟩
  · have hj1 : j = h.length := by
      have := (List.getElem?_eq_some_iff.mp hj).1
      simp at this
      omega
    subst hj1
    rw [List.getElem?_append_right (Nat.le_refl _)] at hj
    simp at hj
    subst hj
    refine ⟨e, ?_, he.mono (by simp) hq⟩
    rw [List.getElem?_append_right (by rw [hw.1]; exact Nat.le_refl _)]
    simp [hw.1, va_up]
/-- the locals -/
def LR (q : Nat → Nat) (kv : Nat → Value) (n : Nat) (ls : Array Slot) (m : Nat) (L : List AV) (dl : DL) : Prop := ∃ lv, lv_has ls m lv ∧ (∀ k v, L[k]? = some v → aUnk v = false → ∃ x, (k, x) ∈ lv ∧ Vr q kv n v x ∧ x.category = 1) ∧ ∀ k x, dl = some (k, x) → (k, Value.double x) ∈ lv
theorem LR.mono {q q' : Nat → Nat} {kv : Nat → Value} {n n' : Nat} {ls : Array Slot} {m : Nat} {L : List AV} {dl : DL} (hn : n ≤ n') (hq : ∀ k, k < n → q' k = q k) (h : LR q kv n ls m L dl) : LR q' kv n' ls m L dl := by
  obtain ⟨lv, h1, h2, h3⟩ := h
  refine ⟨lv, h1, fun k v hk hu => ?_, h3⟩
  obtain ⟨x, a, b, c⟩ := h2 k v hk hu
  exact ⟨x, a, b.mono hn hq, c⟩
theorem LR.size {q : Nat → Nat} {kv : Nat → Value} {n : Nat} {ls : Array Slot} {m : Nat} {L : List AV} {dl : DL} (h : LR q kv n ls m L dl) : ls.size = m := by
  obtain ⟨lv, h1, -⟩ := h
  exact h1.1
theorem LR.get {q : Nat → Nat} {kv : Nat → Value} {n : Nat} {ls : Array Slot} {m : Nat} {L : List AV} {dl : DL} (h : LR q kv n ls m L dl) {k : Nat} {v : AV} (hk : L[k]? = some v) (hu : aUnk v = false) : ∃ x, ls[k]? = some (.val x) ∧ Vr q kv n v x := by
  obtain ⟨lv, h1, h2, h3⟩ := h
  obtain ⟨x, a, b, c⟩ := h2 k v hk hu
  exact ⟨x, h1.2.2 (k, x) a, b⟩
theorem LR.getE {q : Nat → Nat} {kv : Nat → Value} {n : Nat} {ls : Array Slot} {m : Nat} {L : List AV} {k : Nat} {x : UInt64} (h : LR q kv n ls m L (some (k, x))) : ls[k]? = some (.val (.double x)) := by
  obtain ⟨lv, h1, h2, h3⟩ := h
  exact h1.2.2 (k, .double x) (h3 k x rfl)
/-- a store of one slot -/
theorem LR.st {q : Nat → Nat} {kv : Nat → Value} {n : Nat} {ls' : Array Slot} {m : Nat} {L : List AV} {dl : DL} {i : Nat} {v : AV} {x : Value} {lv : List (Nat × Value)} (h2 : ∀ k v, L[k]? = some v → aUnk v = false → ∃ x, (k, x) ∈ lv ∧ Vr q kv n v x ∧ x.category = 1) (h3 : ∀ k x, dl = some (k, x) → (k, Value.double x) ∈ lv)
    (hc : x.category = 1) (hv : aUnk v = true ∨ Vr q kv n v x) (h' : lv_has ls' m ((i, x) :: lv.filter (fun q => !(q.1 == i) && !(q.1 + 1 == i && q.2.category == 2)))) : LR q kv n ls' m (L.set i v) (dlc i dl) := by
  refine ⟨_, h', fun k w hk hu => ?_, fun k y e => ?_⟩
  · by_cases hik : k = i
    · subst hik
      have hl : k < L.length := by
        have := (List.getElem?_eq_some_iff.mp hk).1
        simpa using this
      rw [List.getElem?_set_self hl] at hk
      cases hk
      rcases hv with hv | hv
      · rw [hv] at hu; cases hu
      · exact ⟨x, List.mem_cons_self, hv, hc⟩
    · rw [List.getElem?_set_ne (fun z => hik z.symm)] at hk
      obtain ⟨y, a, b, c⟩ := h2 k w hk hu
      refine ⟨y, List.mem_cons_of_mem _ (List.mem_filter.mpr ⟨a, ?_⟩), b, c⟩
      simp [hik, c]
  · cases dl with
    | none => simp [dlc] at e
    | some d =>
      obtain ⟨j, z⟩ := d
      unfold dlc at e
      simp only at e
      by_cases hj : i = j ∨ i = j + 1
      · rw [if_pos hj] at e; cases e
      · rw [if_neg hj] at e
        cases e
        refine List.mem_cons_of_mem _ (List.mem_filter.mpr ⟨h3 _ _ rfl, ?_⟩)
        have a1 : ¬ k = i := fun z => hj (Or.inl z.symm)
        have a2 : ¬ k + 1 = i := fun z => hj (Or.inr z.symm)
        simp [a1, a2]
theorem LR.stE {q : Nat → Nat} {kv : Nat → Value} {n : Nat} {ls' : Array Slot} {m : Nat} {L : List AV} {i : Nat} {x : UInt64} {lv : List (Nat × Value)} (h2 : ∀ k v, L[k]? = some v → aUnk v = false → ∃ x, (k, x) ∈ lv ∧ Vr q kv n v x ∧ x.category = 1)
    (h' : lv_has ls' m ((i, Value.double x) :: lv.filter (fun q => !(q.1 == i) && (!(q.1 == i + 1) && !(q.1 + 1 == i && q.2.category == 2))))) : LR q kv n ls' m ((L.set i aU).set (i + 1) aU) (some (i, x)) := by
  refine ⟨_, h', fun k w hk hu => ?_, fun k y e => ?_⟩
  · by_cases h1 : k = i + 1
    · subst h1
      by_cases hl : i + 1 < (L.set i aU).length
      · rw [List.getElem?_set_self hl] at hk
        cases hk
        cases hu
      · rw [List.getElem?_eq_none (by simp at hl ⊢; omega)] at hk
        cases hk
    · rw [List.getElem?_set_ne (fun z => h1 z.symm)] at hk
      by_cases h0 : k = i
      · subst h0
        by_cases hl : k < L.length
        · rw [List.getElem?_set_self hl] at hk
          cases hk
          cases hu
        · rw [List.getElem?_eq_none (by simp at hl ⊢; omega)] at hk
          cases hk
      · rw [List.getElem?_set_ne (fun z => h0 z.symm)] at hk
        obtain ⟨y, a, b, c⟩ := h2 k w hk hu
        refine ⟨y, List.mem_cons_of_mem _ (List.mem_filter.mpr ⟨a, ?_⟩), b, c⟩
        simp [h0, h1, c]
  · cases e
    exact List.mem_cons_self
