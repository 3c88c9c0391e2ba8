/-! PURE 41: the reference's own fields, written -/
/-- the reference's object with its field k changed -/
def fldM (h : AH) (p : Nat) (fs : List AV) (k : Nat) (v : AV) : AH := hset h p (oO 12 (fs.set k v))
section
variable {sc : SC} {h h' : AH} {p qf ql qm n k : Nat} {fs : List AV} {g l s : Nat → Int32} {x : Int32} {v : AV} {t : Nat}
theorem putM (hp : hget h p = some (oO 12 fs)) (hk : k < fs.length) (hf : fitK t v = true) : putF h p 12 k t v = some (fldM h p fs k v) := putF_D hp hk hf
theorem fldM_at (hp : hget h p = some (oO 12 fs)) : hget (fldM h p fs k v) p = some (oO 12 (fs.set k v)) := hget_set hp
theorem fldM_fr (hp : hget h p = some (oO 12 fs)) : Fr (fun y => y = p) h (fldM h p fs k v) := fr_set hp (List.length_set ..)
theorem FO.fld (o : FO h p fs qf n g) (hk : ¬ k = 3) (hq : ¬ qf = p) : FO (fldM h p fs k v) p (fs.set k v) qf n g := ⟨hget_set o.1, by rw [List.getElem?_set_ne hk]; exact o.2.1, (hget_ne hq).trans o.2.2.1, o.2.2.2⟩
theorem LO.fld (o : LO h p fs ql l) (hk : ¬ k = 14) (hq : ¬ ql = p) : LO (fldM h p fs k v) p (fs.set k v) ql l := ⟨hget_set o.1, by rw [List.getElem?_set_ne hk]; exact o.2.1, (hget_ne hq).trans o.2.2⟩
theorem MO.fld (o : MO h p fs qm s) (hk : ¬ k = 13) (hq : ¬ qm = p) : MO (fldM h p fs k v) p (fs.set k v) qm s := ⟨hget_set o.1, by rw [List.getElem?_set_ne hk]; exact o.2.1, (hget_ne hq).trans o.2.2⟩
theorem c_X10_fail (hp : hget h p = some (oO 12 fs)) (hk : 0 < fs.length) : Call sc n_X10_fail [aD p, aI x] h = some (.inl (some (aI (nI 0))), fldM h p fs 0 (aI x)) := by
  simp only [c0_X10_fail, e_X10_fail_0, e_X10_fail_5, putM hp hk (show fitK 0 (aI x) = true from rfl), bO_some, bF_I, bF_D, bF_C, bC_v, pk_mul, nI_add, Option.toList, List.cons_append, List.nil_append]
theorem c_X10_thrown (hp : hget h p = some (oO 12 fs)) (hk : fs[0]? = some (aI x)) : Call sc n_X10_thrown [aD p] h = some (.inl (some (aI x)), h) := by
  have e1 : getF sc h (aD p) 12 0 = some (aI x) := getF_D hp hk
  simp only [c0_X10_thrown, e_X10_thrown_0, e_X10_thrown_4, e1, bO_some, bF_I, bF_D, bF_C, bC_v, pk_mul, nI_add, Option.toList, List.cons_append, List.nil_append]
end
