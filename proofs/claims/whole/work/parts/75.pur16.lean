/-! PURE 16: a machine performs -/
section
variable {sc : SC} {h h' : AH} {p q N n i j k No m st m' st' : Nat} {f v o v' o' : Nat → Int32} {x : Int32} {S : Nat → Prop}
theorem c_ord (hk : k < 12) : Call sc n_Jx29ce0_ordinal_8abf5 [aC (k + 1)] h = some (.inl (some (aI (nI k))), h) := by
  simp only [c0_Jx29ce0_ordinal_8abf5, e_Jx29ce0_ordinal_8abf5_0, e_Jx29ce0_ordinal_8abf5_4, kf_o hk, bO_some, bF_I, bF_D, bF_C, bC_v, pk_mul, nI_add, Option.toList, List.cons_append, List.nil_append]
theorem smap (hk : k < 12) : ldI sc h (fun t => t == 0) (aC 14) (nI k) = some (nI (if cfK k = true then k else 0)) := by
  rcases twelve hk with rfl | rfl | rfl | rfl | rfl | rfl | rfl | rfl | rfl | rfl | rfl | rfl <;> rfl
def swP (y : Int32) : Nat := if (y).toInt < 1 ∨ 7 < (y).toInt then 223 else ([76, 87, 103, 127, 151, 173, 195] : List Nat).getD ((y).toInt - 1).toNat 0
theorem swP_0 : swP (nI 0) = 223 := by decide
theorem swP_1 : swP (nI 1) = 76 := by decide
theorem swP_2 : swP (nI 2) = 87 := by decide
theorem swP_3 : swP (nI 3) = 103 := by decide
theorem swP_4 : swP (nI 4) = 127 := by decide
theorem swP_5 : swP (nI 5) = 151 := by decide
theorem swP_6 : swP (nI 6) = 173 := by decide
theorem swP_7 : swP (nI 7) = 195 := by decide
theorem swP_eq (y : Int32) : (if (y).toInt < 1 ∨ 7 < (y).toInt then 223 else ([76, 87, 103, 127, 151, 173, 195] : List Nat).getD ((y).toInt - 1).toNat 0) = swP y := rfl
theorem q_perform (gp : PG h q N n f) (hv : VK n (xC n f)) (hg : VG n (xC n f)) (hi : i < n) : Call sc n_X5_perform [aD p, aD q, aI (nI i)] h = Run sc n_X5_perform (swP (nI (if cfK (kx (xC n f) i) = true then kx (xC n f) i else 0))) [aD p, aD q, aI (nI i), aI (nI (rg (xC n f) i 1)), aI (nI (rg (xC n f) i 2)), aI (xC n f i 3)] none [] h := by
  have k1 := (hv i hi).2
  have e1 := c_X6_kind (sc := sc) gp hv hi
  have e2 := c_X6_part (sc := sc) gp hi (show 1 < 5 by omega)
  have e3 := c_X6_part (sc := sc) gp hi (show 2 < 5 by omega)
  have e4 := c_X6_part (sc := sc) gp hi (show 3 < 5 by omega)
  have r1 := hg.r1 hi
  have r2 := hg.r2 hi
  rw [r1.1] at e2
  rw [r2.1] at e3
  simp only [c0_X5_perform, e_X5_perform_0, e_X5_perform_6, e_X5_perform_13, e_X5_perform_21, e_X5_perform_31, e_X5_perform_34, e_X5_perform_35, bI_t gp.ok, bI_t (kok k1), e1, e2, e3, e4, c_ord k1, smap k1, swP_eq, bO_some, bF_I, bF_D, bF_C, bC_v, pk_mul, nI_add, Option.toList, List.cons_append, List.nil_append]
theorem c_X5_perform (g : MA h p v No o m st) (gp : PG h q N n f) (hv : VK n (xC n f)) (hg : VG n (xC n f)) (hi : i < n) (hm : m < No) : Call sc n_X5_perform [aD p, aD q, aI (nI i)] h = some (.inl none, mset h p (pfV (xC n f) i v) No (pfO (xC n f) i v o m) (pfN (xC n f) i m) st) := by
  have k1 := (hv i hi).2
  have r1 := hg.r1 hi
  have r2 := hg.r2 hi
  have q1 := g.l1 (sc := sc) (show rg (xC n f) i 1 < 24 by omega)
  have q2 := g.l1 (sc := sc) (show rg (xC n f) i 2 < 24 by omega)
  have s1 := fun x => g.s1 (x := x) (show rg (xC n f) i 1 < 24 by omega)
  rw [q_perform gp hv hg hi]
  rcases twelve k1 with hk | hk | hk | hk | hk | hk | hk | hk | hk | hk | hk | hk
  · rw [hk, show pfV (xC n f) i v = v from by unfold pfV; rw [hk]; rfl, show pfO (xC n f) i v o m = o from by unfold pfO; rw [hk]; rfl, show pfN (xC n f) i m = m from by unfold pfN; rw [hk]; rfl]
    rw [show swP (nI (if cfK 0 = true then 0 else 0)) = 223 from swP_0, e_X5_perform_223, g.self]
  · rw [hk, show pfV (xC n f) i v = upd v (rg (xC n f) i 1) ((xC n f) i 3) from by unfold pfV; rw [hk]; rfl, show pfO (xC n f) i v o m = o from by unfold pfO; rw [hk]; rfl, show pfN (xC n f) i m = m from by unfold pfN; rw [hk]; rfl]
    rw [show swP (nI (if cfK 1 = true then 1 else 0)) = 76 from swP_1]
    simp only [e_X5_perform_76, e_X5_perform_80, e_X5_perform_84, e_X5_perform_223, g.f0, s1, bO_some, bF_I, bF_D, bF_C, bC_v, pk_mul, nI_add, Option.toList, List.cons_append, List.nil_append]
  · rw [hk, show pfV (xC n f) i v = upd v (rg (xC n f) i 1) (v (rg (xC n f) i 2)) from by unfold pfV; rw [hk]; rfl, show pfO (xC n f) i v o m = o from by unfold pfO; rw [hk]; rfl, show pfN (xC n f) i m = m from by unfold pfN; rw [hk]; rfl]
    rw [show swP (nI (if cfK 2 = true then 2 else 0)) = 87 from swP_2]
    simp only [e_X5_perform_87, e_X5_perform_91, e_X5_perform_96, e_X5_perform_99, e_X5_perform_100, e_X5_perform_223, g.f0, q2, s1, bO_some, bF_I, bF_D, bF_C, bC_v, pk_mul, nI_add, Option.toList, List.cons_append, List.nil_append]
  · rw [hk, show pfV (xC n f) i v = upd v (rg (xC n f) i 1) (v (rg (xC n f) i 2) + v (rg (xC n f) i 3)) from by unfold pfV; rw [hk]; rfl, show pfO (xC n f) i v o m = o from by unfold pfO; rw [hk]; rfl, show pfN (xC n f) i m = m from by unfold pfN; rw [hk]; rfl]
    rw [show swP (nI (if cfK 3 = true then 3 else 0)) = 103 from swP_3]
    have r3 := hg.r3 hi (by rw [hk]; rfl)
    have q3 := g.l1 (sc := sc) (show rg (xC n f) i 3 < 24 by omega)
    rw [r3.1]
    simp only [e_X5_perform_103, e_X5_perform_107, e_X5_perform_112, e_X5_perform_115, e_X5_perform_119, e_X5_perform_122, e_X5_perform_124, e_X5_perform_223, g.f0, q2, q3, s1, bO_some, bF_I, bF_D, bF_C, bC_v, pk_mul, nI_add, Option.toList, List.cons_append, List.nil_append]
  · rw [hk, show pfV (xC n f) i v = upd v (rg (xC n f) i 1) (v (rg (xC n f) i 2) - v (rg (xC n f) i 3)) from by unfold pfV; rw [hk]; rfl, show pfO (xC n f) i v o m = o from by unfold pfO; rw [hk]; rfl, show pfN (xC n f) i m = m from by unfold pfN; rw [hk]; rfl]
    rw [show swP (nI (if cfK 4 = true then 4 else 0)) = 127 from swP_4]
    have r3 := hg.r3 hi (by rw [hk]; rfl)
    have q3 := g.l1 (sc := sc) (show rg (xC n f) i 3 < 24 by omega)
    rw [r3.1]
    simp only [e_X5_perform_127, e_X5_perform_131, e_X5_perform_136, e_X5_perform_139, e_X5_perform_143, e_X5_perform_146, e_X5_perform_148, e_X5_perform_223, g.f0, q2, q3, s1, bO_some, bF_I, bF_D, bF_C, bC_v, pk_mul, nI_add, Option.toList, List.cons_append, List.nil_append]
  · rw [hk, show pfV (xC n f) i v = upd v (rg (xC n f) i 1) (v (cell (xC n f) v i)) from by unfold pfV; rw [hk]; rfl, show pfO (xC n f) i v o m = o from by unfold pfO; rw [hk]; rfl, show pfN (xC n f) i m = m from by unfold pfN; rw [hk]; rfl]
    rw [show swP (nI (if cfK 5 = true then 5 else 0)) = 151 from swP_5]
    have c1 := cell_ok (xC n f) v i
    have c2 := c_X5_cellPlace (sc := sc) (x := xC n f i 3) g (show rg (xC n f) i 2 < 24 by omega)
    rw [c1.1] at c2
    have q4 := g.l1 (sc := sc) c1.2
    simp only [e_X5_perform_151, e_X5_perform_155, e_X5_perform_160, e_X5_perform_168, e_X5_perform_169, e_X5_perform_170, e_X5_perform_223, g.f0, bI_t g.ok, c2, q4, s1, bO_some, bF_I, bF_D, bF_C, bC_v, pk_mul, nI_add, Option.toList, List.cons_append, List.nil_append]
  · rw [hk, show pfV (xC n f) i v = upd v (cell (xC n f) v i) (v (rg (xC n f) i 1)) from by unfold pfV; rw [hk]; rfl, show pfO (xC n f) i v o m = o from by unfold pfO; rw [hk]; rfl, show pfN (xC n f) i m = m from by unfold pfN; rw [hk]; rfl]
    rw [show swP (nI (if cfK 6 = true then 6 else 0)) = 173 from swP_6]
    have c1 := cell_ok (xC n f) v i
    have c2 := c_X5_cellPlace (sc := sc) (x := xC n f i 3) g (show rg (xC n f) i 2 < 24 by omega)
    rw [c1.1] at c2
    have q4 := g.l1 (sc := sc) c1.2
    have s2 := fun x => g.s1 (x := x) c1.2
    simp only [e_X5_perform_173, e_X5_perform_177, e_X5_perform_185, e_X5_perform_189, e_X5_perform_191, e_X5_perform_192, e_X5_perform_223, g.f0, bI_t g.ok, c2, q1, s2, bO_some, bF_I, bF_D, bF_C, bC_v, pk_mul, nI_add, Option.toList, List.cons_append, List.nil_append]
  · rw [hk, show pfV (xC n f) i v = v from by unfold pfV; rw [hk]; rfl, show pfO (xC n f) i v o m = upd o m (v (rg (xC n f) i 1)) from by unfold pfO; rw [hk]; rfl, show pfN (xC n f) i m = m + 1 from by unfold pfN; rw [hk]; rfl]
    rw [show swP (nI (if cfK 7 = true then 7 else 0)) = 195 from swP_7]
    have s2 := fun x => g.s2 (x := x) hm
    have g1 := g.to (v' := v) (o' := upd o m (v (rg (xC n f) i 1))) (m' := m) (st' := st)
    have s3 := g1.p2 (m' := m + 1)
    rw [mset_mset] at s3
    simp only [e_X5_perform_195, e_X5_perform_199, e_X5_perform_203, e_X5_perform_207, e_X5_perform_209, e_X5_perform_210, e_X5_perform_215, e_X5_perform_220, e_X5_perform_223, g.f0, g.f1, g.f2, g1.f2, q1, s2, s3, bO_some, bF_I, bF_D, bF_C, bC_v, pk_mul, nI_add, Option.toList, List.cons_append, List.nil_append]
  · rw [hk, show pfV (xC n f) i v = v from by unfold pfV; rw [hk]; rfl, show pfO (xC n f) i v o m = o from by unfold pfO; rw [hk]; rfl, show pfN (xC n f) i m = m from by unfold pfN; rw [hk]; rfl]
    rw [show swP (nI (if cfK 8 = true then 8 else 0)) = 223 from swP_0, e_X5_perform_223, g.self]
  · rw [hk, show pfV (xC n f) i v = v from by unfold pfV; rw [hk]; rfl, show pfO (xC n f) i v o m = o from by unfold pfO; rw [hk]; rfl, show pfN (xC n f) i m = m from by unfold pfN; rw [hk]; rfl]
    rw [show swP (nI (if cfK 9 = true then 9 else 0)) = 223 from swP_0, e_X5_perform_223, g.self]
  · rw [hk, show pfV (xC n f) i v = v from by unfold pfV; rw [hk]; rfl, show pfO (xC n f) i v o m = o from by unfold pfO; rw [hk]; rfl, show pfN (xC n f) i m = m from by unfold pfN; rw [hk]; rfl]
    rw [show swP (nI (if cfK 10 = true then 10 else 0)) = 223 from swP_0, e_X5_perform_223, g.self]
  · rw [hk, show pfV (xC n f) i v = v from by unfold pfV; rw [hk]; rfl, show pfO (xC n f) i v o m = o from by unfold pfO; rw [hk]; rfl, show pfN (xC n f) i m = m from by unfold pfN; rw [hk]; rfl]
    rw [show swP (nI (if cfK 11 = true then 11 else 0)) = 223 from swP_0, e_X5_perform_223, g.self]
end
