/-! PURE 24: letters; what is made behind a heap -/
theorem asc_b : ∀ c, c < 128 → narK 2 ((nI c).toInt8.toInt32) = nI c ∧ (((nI c) &&& nI 255).toUInt32 % 65536).toInt32 = nI c ∧ narK 2 (nI c) = nI c ∧ retK (some FieldType.char) (nI c) = true := by decide +kernel
def AS (x : Int32) : Prop := ∃ c, c < 128 ∧ x = nI c
theorem asc_c : ∀ c, c < 128 → narK 1 (nI c) = nI c := by decide +kernel
theorem hget_push {h : AH} {o : AO} {i : Nat} (hi : i < h.1.length) : hget (hpush h o) i = hget h i := by
  show (h.1 ++ [o])[i]? = h.1[i]?
  rw [List.getElem?_append_left hi]
theorem hget_new {h : AH} {o : AO} : hget (hpush h o) h.1.length = some o := by
  show (h.1 ++ [o])[h.1.length]? = some o
  rw [List.getElem?_append_right (Nat.le_refl _), Nat.sub_self]
  rfl
theorem push_len {h : AH} {o : AO} : (hpush h o).1.length = h.1.length + 1 := by
  show (h.1 ++ [o]).length = _
  rw [List.length_append]
  rfl
theorem push_cost {h : AH} {o : AO} : costS (hpush h o) = costS h + osize o := by
  show ((h.1 ++ [o]).map osize).sum + 6 * h.2 = (h.1.map osize).sum + 6 * h.2 + osize o
  rw [List.map_append, List.sum_append]
  show (h.1.map osize).sum + (osize o + 0) + 6 * h.2 = _
  omega
section
variable {i k : Nat}
theorem AS_w : ∀ k, k < 12 → ∀ c, c ∈ wL k → c.toNatClampNeg < 128 ∧ c = nI c.toNatClampNeg := by
  intro k hk
  rcases twelve hk with rfl | rfl | rfl | rfl | rfl | rfl | rfl | rfl | rfl | rfl | rfl | rfl <;> decide
theorem AS_wd (hk : k < 12) (hi : i < (wL k).length) : AS ((wL k).getD i 0) := by
  have h1 : (wL k).getD i 0 ∈ wL k := by
    rw [List.getD_eq_getElem?_getD, List.getElem?_eq_getElem hi]
    exact List.getElem_mem hi
  have h2 := AS_w k hk _ h1
  exact ⟨_, h2.1, h2.2⟩
end
