/-! SOUNDNESS 2: what is known of the launch's constants and tables, and how it goes along -/
def kval (kv : Nat → Value) (v : AV) : Value := match v with
  | .inl x => .int x
  | .inr (.inr (.inl k)) => kv k
  | _ => .null
def tyT (t : Nat) : FieldType := match t with
  | 0 => .int
  | 1 => .char
  | 2 => .byte
  | _ => .boolean
/-- the words that go along from frame to frame -/
def okv (w : Cond) : Bool := goodWord w || (match w with
  | .castable _ _ => true
  | .declares _ => true
  | .fieldLinkNest _ _ _ _ _ _ => true
  | .methodLinkNest _ _ _ _ => true
  | .arrayOver (.object _) => true
  | _ => false)
def HW (U : State) : Prop := ∀ w ∈ lw_tb2, okv w = true → w.before #[] U = true
def KCa (kv : Nat → Value) (sc : SC) (A : Nat → Prop) (U : State) (H : Heap) : Prop :=
  (∀ (i : Nat) (f : String × String × String) (v : AV), SZl[i]? = some f → SVl[i]? = some v → f.2.1 ≠ "" → (aUnk v = false ∧ va_Z f.1 f.2.1 f.2.2 (kval kv v) A U H) ∨ (aUnk v = true ∧ va_Zq f.1 f.2.1 f.2.2 A U H)) ∧
  (∀ (k c : Nat) (fs : List AV), kobj sc k = some (.inl (c, fs)) → (c = 100 ∨ c = 101) ∧ ∃ a, kv k = .ref a ∧ va_O (rcn c) a A U H ∧ ∀ (j : Nat) (f : String × String × String) (v : AV), (if c = 100 then KFl else SFl)[j]? = some f → fs[j]? = some v → va_OF f.1 f.2.1 f.2.2 (kval kv v) a A U H ∧ (∃ x, v = aI x) ∨ (∃ k', v = aC k' ∧ va_OF f.1 f.2.1 f.2.2 (kval kv v) a A U H)) ∧
  (∀ (k t n : Nat) (f : Nat → Int32), kobj sc k = some (.inr (.inl (t, n, f))) → t < 4 ∧ ∃ a, kv k = .ref a ∧ va_T (tyT t) a n (fun j => .int (f j)) A U H) ∧
  (∀ (k n : Nat) (f : Nat → AV), kobj sc k = some (.inr (.inr (.inr (.inr (n, f))))) → ∃ a, kv k = .ref a ∧ va_T (.object "BranchSlotFiller$Kind") a n (fun j => kval kv (f j)) A U H ∧ ∀ j, ∃ k', f j = aC k') ∧
  vx_Zq Bundle.tN "UNASSIGNED_STACK" Bundle.steD A U H ∧ vx_Zq Bundle.tN "SUPPRESSED_SENTINEL" Bundle.listD A U H
/-- all that a frame knows of the launch -/
def KC (kv : Nat → Value) (sc : SC) (A : Nat → Prop) (U : State) (H : Heap) : Prop :=
  KV kv ∧ (∀ i j, 1 ≤ i → i < 13 → 1 ≤ j → j < 13 → kv i = kv j → i = j) ∧ KCa kv sc A U H ∧ HW U ∧
  (∀ own k tx, Cond.stringRef own k tx ∈ lw_tb2 → ∃ a, vk_R own k tx a U) ∧
  (∀ (i j : Nat) (e e' : String × List String), EXl[i]? = some e → EXl[j]? = some e' → i ≠ j → va_Nc e.1 e'.1 U)
theorem HW.warm {s U : State} (hW : s.WarmedH U.vm) (h : HW s) : HW U := by
  intro w hw ho
  have hb := h w hw ho
  unfold okv at ho
  rcases Bool.or_eq_true_iff.mp ho with hg | hg
  · exact word_at hW (good_of_word hg) hb
  · cases w <;> first | (simp at hg; done) | skip
    case castable => exact va_Nw.warmC hW hb
    case declares => exact va_Nw.warmD hW hb
    case fieldLinkNest => exact va_Nw.warmF hW hb
    case methodLinkNest => exact va_Nw.warmM hW hb
    case arrayOver ty =>
      cases ty <;> first | (simp at hg; done) | skip
      exact va_AO.moved hW.alike hb
theorem KCa.kept {kv : Nat → Value} {sc : SC} {A : Nat → Prop} {U : State} {H H1 : Heap} (h : KCa kv sc A U H) (hq : ∀ a : Nat, a < H.size → ¬ A a → H1[a]? = H[a]?) : KCa kv sc A U H1 := by
  obtain ⟨h1, h2, h3, h4, h5, h6⟩ := h
  refine ⟨fun i f v a b c => (h1 i f v a b c).imp (fun z => ⟨z.1, z.2.kept hq⟩) (fun z => ⟨z.1, z.2.kept hq⟩), fun k c fs e => ?_, fun k t n f e => ?_, fun k n f e => ?_, h5.kept hq, h6.kept hq⟩
  · obtain ⟨e1, a, e2, e3, e4⟩ := h2 k c fs e
    refine ⟨e1, a, e2, e3.kept hq, fun j f v hf hv => ?_⟩
    rcases e4 j f v hf hv with ⟨g1, g2⟩ | ⟨k', g1, g2⟩
    · exact Or.inl ⟨g1.kept hq, g2⟩
    · exact Or.inr ⟨k', g1, g2.kept hq⟩
  · obtain ⟨e1, a, e2, e3⟩ := h3 k t n f e
    exact ⟨e1, a, e2, e3.kept hq⟩
  · obtain ⟨a, e2, e3, e4⟩ := h4 k n f e
    exact ⟨a, e2, e3.kept hq, e4⟩
theorem KCa.narrow {kv : Nat → Value} {sc : SC} {A B : Nat → Prop} {U : State} {H : Heap} (h : KCa kv sc A U H) (hq : ∀ a, B a → A a) : KCa kv sc B U H := by
  obtain ⟨h1, h2, h3, h4, h5, h6⟩ := h
  refine ⟨fun i f v a b c => (h1 i f v a b c).imp (fun z => ⟨z.1, z.2.narrow hq⟩) (fun z => ⟨z.1, z.2.narrow hq⟩), fun k c fs e => ?_, fun k t n f e => ?_, fun k n f e => ?_, h5.narrow hq, h6.narrow hq⟩
  · obtain ⟨e1, a, e2, e3, e4⟩ := h2 k c fs e
    refine ⟨e1, a, e2, e3.narrow hq, fun j f v hf hv => ?_⟩
    rcases e4 j f v hf hv with ⟨g1, g2⟩ | ⟨k', g1, g2⟩
    · exact Or.inl ⟨g1.narrow hq, g2⟩
    · exact Or.inr ⟨k', g1, g2.narrow hq⟩
  · obtain ⟨e1, a, e2, e3⟩ := h3 k t n f e
    exact ⟨e1, a, e2, e3.narrow hq⟩
  · obtain ⟨a, e2, e3, e4⟩ := h4 k n f e
    exact ⟨a, e2, e3.narrow hq, e4⟩
theorem KCa.moved {kv : Nat → Value} {sc : SC} {A : Nat → Prop} {u U : State} {H : Heap} (hvm : u.vm.Alike U.vm) (h : KCa kv sc A u H) : KCa kv sc A U H := by
  obtain ⟨h1, h2, h3, h4, h5, h6⟩ := h
  refine ⟨fun i f v a b c => (h1 i f v a b c).imp (fun z => ⟨z.1, va_Z.moved hvm z.2⟩) (fun z => ⟨z.1, va_Zq.moved hvm z.2⟩), fun k c fs e => ?_, fun k t n f e => ?_, fun k n f e => ?_, vx_Zq.moved hvm h5, vx_Zq.moved hvm h6⟩
  · obtain ⟨e1, a, e2, e3, e4⟩ := h2 k c fs e
    refine ⟨e1, a, e2, va_O.moved hvm e3, fun j f v hf hv => ?_⟩
    rcases e4 j f v hf hv with ⟨g1, g2⟩ | ⟨k', g1, g2⟩
    · exact Or.inl ⟨va_OF.moved hvm g1, g2⟩
    · exact Or.inr ⟨k', g1, va_OF.moved hvm g2⟩
  · obtain ⟨e1, a, e2, e3⟩ := h3 k t n f e
    exact ⟨e1, a, e2, va_T.moved hvm e3⟩
  · obtain ⟨a, e2, e3, e4⟩ := h4 k n f e
    exact ⟨a, e2, va_T.moved hvm e3, e4⟩
/-- seen from a callee's start -/
theorem KC.callee {kv : Nat → Value} {sc : SC} {A B : Nat → Prop} {s U : State} {H0 H : Heap} (h : KC kv sc A s H0) (hW : s.WarmedH U.vm) (hq : ∀ a : Nat, a < H0.size → ¬ A a → H[a]? = H0[a]?) (hAB : ∀ a, B a → A a) : KC kv sc B U H := by
  obtain ⟨h1, h2, h3, h4, h5, h6⟩ := h
  refine ⟨h1, h2, KCa.moved hW.alike ((h3.kept hq).narrow hAB), h4.warm hW, fun own k tx hm => ?_, fun i j e e' a b c => va_Nc.moved hW.alike (h6 i j e e' a b c)⟩
  obtain ⟨a, ha⟩ := h5 own k tx hm
  exact ⟨a, vk_R.warm hW ha⟩
theorem okw_use {U : State} (h : HW U) {w : Cond} (hm : w ∈ lw_tb2) (ho : okv w = true) (args : Array Value) : w.before args U = true := by
  have hb := h w hm ho
  unfold okv at ho
  rcases Bool.or_eq_true_iff.mp ho with hg | hg
  · exact word_at (State.WarmedH.refl U) (good_of_word hg) hb
  · cases w <;> first | (simp at hg; done) | exact va_tabs rfl rfl hb | exact hb
theorem tb2_of {w : Cond} {i : Nat} (h : tables_1[i]? = some w) : w ∈ lw_tb2 := List.mem_append_left _ (List.mem_append_right _ (List.mem_of_getElem? h))
/-- the rows of arrays' classes -/
def tysOf (dA : Nat → ClassId) : List (ClassId × FieldType) := [(dA 0, .int), (dA 1, .char), (dA 2, .byte), (dA 3, .boolean), (dA 4, .long), (dA 5, .double), (dA 6, .object "BranchSlotFiller$Program")]
