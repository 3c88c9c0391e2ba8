/-! SOUNDNESS 3: checks of the fields, shapes of stacks -/
def TS : List Cond := lw_tb2.filter okv
set_option maxRecDepth 100000 in
set_option maxHeartbeats 4000000 in
theorem ws_ok : (vwCl.drop 4).all (fun r => (u_ws r.1 r.2.1 r.2.2).all (fun w => lw_tbl.contains w && okv w)) = true := by decide +kernel
set_option maxRecDepth 100000 in
set_option maxHeartbeats 4000000 in
theorem ws_ok1 : ((vwCl.drop 1).take 1).all (fun r => (u_ws r.1 r.2.1 r.2.2).all (fun w => lw_tbl.contains w && okv w)) = true := by decide +kernel
/-- the classes whose objects are made -/
def cMade (c : Nat) : Prop := c = 1 ∨ 4 ≤ c
theorem ws_in {c : Nat} {r : vw_C} (hc : cMade c) (h : vwCl[c]? = some r) : ∀ w ∈ u_ws r.1 r.2.1 r.2.2, w ∈ TS := by
  intro w hw
  have key : (u_ws r.1 r.2.1 r.2.2).all (fun w => lw_tbl.contains w && okv w) = true := by
    rcases hc with rfl | hc
    · exact List.all_eq_true.mp ws_ok1 r (List.mem_of_getElem? (i := 0) (by simpa using h))
    · refine List.all_eq_true.mp ws_ok r (List.mem_of_getElem? (i := c - 4) ?_)
      rw [List.getElem?_drop]
      rw [show 4 + (c - 4) = c by omega]
      exact h
  have h1 := List.all_eq_true.mp key w hw
  simp only [Bool.and_eq_true] at h1
  exact List.mem_filter.mpr ⟨List.mem_append_left _ (List.contains_iff_mem.mp h1.1), h1.2⟩
theorem ty_ok : vwCl.all (fun r => (List.range r.2.2).all (fun k => (parseFieldDescriptor (r.2.1 k).2.2.1).isSome)) = true := by decide +kernel
theorem nm_ok : vwCl.all (fun r => (List.range r.2.2).all (fun a => (List.range r.2.2).all (fun b => decide (a = b) || decide ((r.2.1 a).2.1 ≠ (r.2.1 b).2.1)))) = true := by decide +kernel
def tyK (r : vw_C) (k : Nat) : FieldType := (parseFieldDescriptor (r.2.1 k).2.2.1).getD .int
theorem tyK_ok {c : Nat} {r : vw_C} (h : vwCl[c]? = some r) : ∀ k, k < r.2.2 → parseFieldDescriptor (r.2.1 k).2.2.1 = some (tyK r k) := by
  intro k hk
  have h1 := List.all_eq_true.mp (List.all_eq_true.mp ty_ok r (List.mem_of_getElem? h)) k (List.mem_range.mpr hk)
  obtain ⟨t, ht⟩ := Option.isSome_iff_exists.mp h1
  unfold tyK
  rw [ht]
  rfl
theorem nmK_ok {c : Nat} {r : vw_C} (h : vwCl[c]? = some r) : ∀ a, a < r.2.2 → ∀ b, b < r.2.2 → a ≠ b → (r.2.1 a).2.1 ≠ (r.2.1 b).2.1 := by
  intro a ha b hb hab
  have h1 := List.all_eq_true.mp (List.all_eq_true.mp (List.all_eq_true.mp nm_ok r (List.mem_of_getElem? h)) a (List.mem_range.mpr ha)) b (List.mem_range.mpr hb)
  simp only [Bool.or_eq_true, decide_eq_true_eq] at h1
  exact h1.resolve_left hab
/-- a field's kind and its type -/
def ftOK (t : Nat) (ty : FieldType) : Bool := match t, ty with
  | 0, .int => true
  | 1, .boolean => true
  | 2, .byte => true
  | 3, .object _ => true
  | 3, .array _ => true
  | _, _ => false
theorem ft_ok : (vwCl.zip FTl).all (fun q => Nat.beq q.2.length q.1.2.2 && (List.range q.1.2.2).all (fun k => ftOK (q.2.getD k 9) (tyK q.1 k))) = true := by decide +kernel
theorem ft_len : FTl.length = 13 ∧ vwCl.length = 13 := by decide
theorem ftK {c k t : Nat} {r : vw_C} {ts : List Nat} (h : vwCl[c]? = some r) (h1 : FTl[c]? = some ts) (h2 : ts[k]? = some t) : k < r.2.2 ∧ ts.length = r.2.2 ∧ ftOK t (tyK r k) = true := by
  have hz : (vwCl.zip FTl)[c]? = some (r, ts) := by rw [List.getElem?_zip_eq_some]; exact ⟨h, h1⟩
  have h3 := List.all_eq_true.mp ft_ok (r, ts) (List.mem_of_getElem? hz)
  simp only [Bool.and_eq_true] at h3
  have hl : ts.length = r.2.2 := Nat.eq_of_beq_eq_true h3.1
  have hk : k < ts.length := (List.getElem?_eq_some_iff.mp h2).1
  refine ⟨by omega, hl, ?_⟩
  have h4 := List.all_eq_true.mp h3.2 k (List.mem_range.mpr (by omega))
  rw [List.getD_eq_getElem?_getD, h2] at h4
  exact h4
theorem narrow_fit {t : Nat} {ty : FieldType} {v : AV} {q : Nat → Nat} {kv : Nat → Value} {n : Nat} {x : Value} (hk : KV kv) (h : ftOK t ty = true) (hv : fitK t v = true) (hx : Vr q kv n v x) : narrow ty x = x ∧ fits ty x = true := by
  have href : ∀ ty', (∃ C, ty' = FieldType.object C) ∨ (∃ z, ty' = FieldType.array z) → aRef v = true → narrow ty' x = x ∧ fits ty' x = true := by
    intro ty' ht hr
    rcases v with i | p | k | u | i | i | i | u <;> first | (simp [aRef] at hr; done) | skip
    · obtain ⟨-, rfl⟩ := hx
      rcases ht with ⟨C, rfl⟩ | ⟨z, rfl⟩ <;> exact ⟨rfl, rfl⟩
    · obtain ⟨a, ha⟩ := hk k
      have hx2 : x = kv k := hx
      rw [ha] at hx2
      subst hx2
      rcases ht with ⟨C, rfl⟩ | ⟨z, rfl⟩ <;> exact ⟨rfl, rfl⟩
    · have hx2 : x = .null := hx
      subst hx2
      rcases ht with ⟨C, rfl⟩ | ⟨z, rfl⟩ <;> exact ⟨rfl, rfl⟩
  match t, ty, h with
  | 0, .int, _ =>
    rcases v with i | v
    · have hx2 : x = .int i := hx
      subst hx2
      exact ⟨rfl, rfl⟩
    · simp [fitK] at hv
  | 1, .boolean, _ =>
    rcases v with i | v
    · have hx2 : x = .int i := hx
      subst hx2
      simp only [fitK, Bool.or_eq_true, decide_eq_true_eq] at hv
      rcases hv with rfl | rfl <;> exact ⟨rfl, rfl⟩
    · simp [fitK] at hv
  | 2, .byte, _ =>
    rcases v with i | v
    · have hx2 : x = .int i := hx
      subst hx2
      simp only [fitK, Bool.or_eq_true, decide_eq_true_eq] at hv
      rcases hv with rfl | rfl <;> exact ⟨rfl, rfl⟩
    · simp [fitK] at hv
  | 3, .object C, _ => exact href _ (Or.inl ⟨C, rfl⟩) hv
  | 3, .array z, _ => exact href _ (Or.inr ⟨z, rfl⟩) hv
section
variable {q : Nat → Nat} {kv : Nat → Value} {n : Nat} {r : List AV} {vs : List Value}
theorem VL.cons {v : AV} (h : VL q kv n (v :: r) vs) : ∃ x xs, vs = x :: xs ∧ Vr q kv n v x ∧ VL q kv n r xs := by
  cases vs with
  | nil => exact h.elim
  | cons x xs => exact ⟨x, xs, rfl, h.1, h.2⟩
theorem VL.I {i : Int32} (h : VL q kv n (.inl i :: r) vs) : ∃ xs, vs = .int i :: xs ∧ VL q kv n r xs := by
  obtain ⟨x, xs, rfl, h1, h2⟩ := h.cons
  have h3 : x = .int i := h1
  subst h3
  exact ⟨xs, rfl, h2⟩
theorem VL.D {p : Nat} (h : VL q kv n (.inr (.inl p) :: r) vs) : ∃ xs, vs = .ref (q p) :: xs ∧ p < n ∧ VL q kv n r xs := by
  obtain ⟨x, xs, rfl, h1, h2⟩ := h.cons
  obtain ⟨h3, h4⟩ := h1
  subst h4
  exact ⟨xs, rfl, h3, h2⟩
theorem VL.C {k : Nat} (h : VL q kv n (.inr (.inr (.inl k)) :: r) vs) : ∃ xs, vs = kv k :: xs ∧ VL q kv n r xs := by
  obtain ⟨x, xs, rfl, h1, h2⟩ := h.cons
  have h3 : x = kv k := h1
  subst h3
  exact ⟨xs, rfl, h2⟩
theorem VL.N {u : Unit} (h : VL q kv n (.inr (.inr (.inr (.inl u))) :: r) vs) : ∃ xs, vs = .null :: xs ∧ VL q kv n r xs := by
  obtain ⟨x, xs, rfl, h1, h2⟩ := h.cons
  have h3 : x = .null := h1
  subst h3
  exact ⟨xs, rfl, h2⟩
theorem VL.Lg {i : Int64} (h : VL q kv n (.inr (.inr (.inr (.inr (.inl i)))) :: r) vs) : ∃ xs, vs = .long i :: xs ∧ VL q kv n r xs := by
  obtain ⟨x, xs, rfl, h1, h2⟩ := h.cons
  have h3 : x = .long i := h1
  subst h3
  exact ⟨xs, rfl, h2⟩
theorem VL.E {i : UInt64} (h : VL q kv n (.inr (.inr (.inr (.inr (.inr (.inl i))))) :: r) vs) : ∃ xs, vs = .double i :: xs ∧ VL q kv n r xs := by
  obtain ⟨x, xs, rfl, h1, h2⟩ := h.cons
  have h3 : x = .double i := h1
  subst h3
  exact ⟨xs, rfl, h2⟩
theorem VL.F {i : UInt32} (h : VL q kv n (.inr (.inr (.inr (.inr (.inr (.inr (.inl i)))))) :: r) vs) : ∃ xs, vs = .float i :: xs ∧ VL q kv n r xs := by
  obtain ⟨x, xs, rfl, h1, h2⟩ := h.cons
  have h3 : x = .float i := h1
  subst h3
  exact ⟨xs, rfl, h2⟩
theorem Vr.obj {v : AV} {x : Value} (hk : KV kv) (ho : aObj v = true) (h : Vr q kv n v x) : ∃ a, x = .ref a := by
  rcases v with i | p | k | u | i | i | i | u <;> first | (simp [aObj] at ho; done) | skip
  · exact ⟨_, h.2⟩
  · obtain ⟨a, ha⟩ := hk k
    have h2 : x = kv k := h
    exact ⟨a, h2.trans ha⟩
theorem VL.obj {v : AV} (hk : KV kv) (ho : aObj v = true) (h : VL q kv n (v :: r) vs) : ∃ a xs, vs = .ref a :: xs ∧ Vr q kv n v (.ref a) ∧ VL q kv n r xs := by
  obtain ⟨x, xs, rfl, h1, h2⟩ := h.cons
  obtain ⟨a, rfl⟩ := h1.obj hk ho
  exact ⟨a, xs, rfl, h1, h2⟩
end
theorem tgt_sp {pc : Nat} {off : Int} {t : Nat} (h : tgt pc off = some t) : (pc : Int) + off = (t : Int) := by
  unfold tgt at h
  by_cases hp : 0 ≤ (pc : Int) + off
  · rw [if_pos hp] at h
    cases h
    omega
  · rw [if_neg hp] at h
    cases h
theorem inb_sp {i : Int32} {n : Nat} (h : inb i n = true) : vp_in i n := by
  unfold inb at h
  unfold vp_in
  exact of_decide_eq_true h
theorem lgc_eq (x y : Int64) : lg_cmp x y = if x < y then -1 else if x = y then 0 else 1 := by
  unfold lg_cmp
  by_cases h1 : x < y
  · have h2 : ¬ x > y := fun h => by
      have a := Int64.lt_iff_toInt_lt.mp h1
      have b := Int64.lt_iff_toInt_lt.mp h
      omega
    have h3 : ¬ x = y := fun h => by
      subst h
      have a := Int64.lt_iff_toInt_lt.mp h1
      omega
    rw [if_pos h1, if_neg h2, if_neg h3]
  · by_cases h3 : x = y
    · subst h3
      rw [if_neg h1, if_pos rfl, if_neg (show ¬ x > x from h1), if_pos rfl]
    · have h2 : x > y := by
        refine Int64.lt_iff_toInt_lt.mpr ?_
        have a : ¬ x.toInt < y.toInt := fun h => h1 (Int64.lt_iff_toInt_lt.mpr h)
        have b : x.toInt ≠ y.toInt := fun h => h3 (Int64.toInt_inj.mp h)
        omega
      rw [if_neg h1, if_pos h2, if_neg h3]
