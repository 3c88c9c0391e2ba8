/-! PURE 64: the reference executes -/
def rS (h : AH) (φ : Nat → Int32) (ρ : Nat → Nat → Int32) (v o : Nat → Int32) (m st : Nat) : AH := rh h (upd (upd φ 20 (nI m)) 21 (nI st)) (upr (upr ρ 61 v) 62 o)
section
variable {sc : SC} {h : AH} {φ : Nat → Int32} {ρ : Nat → Nat → Int32} {v o : Nat → Int32} {m st j x' n i a L : Nat} {x : Int32} {X : Nat → Nat → Int32} {hs : Bool} {v5 v6 : AV}
theorem rS_ok (r : Option Res) : bI (rOK sc (rS h φ ρ v o m st) (aD 51) 12 = true) r = r := bI_r r
theorem rS_2 : getF sc (rS h φ ρ v o m st) (aD 51) 12 2 = some (aI (φ 2)) := rf_2
theorem rS_18 : getF sc (rS h φ ρ v o m st) (aD 51) 12 18 = some (aD 61) := rf_18
theorem rS_19 : getF sc (rS h φ ρ v o m st) (aD 51) 12 19 = some (aD 62) := rf_19
theorem rS_20 : getF sc (rS h φ ρ v o m st) (aD 51) 12 20 = some (aI (nI m)) := rf_20
theorem rS_21 : getF sc (rS h φ ρ v o m st) (aD 51) 12 21 = some (aI (nI st)) := rf_21
theorem rS_p21 : putF (rS h φ ρ v o m st) 51 12 21 0 (aI (nI x')) = some (rS h φ ρ v o m x') := by
  unfold rS
  rw [rp_21, upd_upd]
theorem upd_comm (f : Nat → Int32) {a b : Nat} (x y : Int32) (hab : ¬ a = b) : upd (upd f a x) b y = upd (upd f b y) a x := by
  funext k
  simp only [upd_eq]
  by_cases h1 : k = b
  · rw [if_pos h1, if_neg (fun z => hab (z.symm.trans h1)), if_pos h1]
  · rw [if_neg h1, if_neg h1]
theorem upr_comm (ρ : Nat → Nat → Int32) {a b : Nat} (f g : Nat → Int32) (hab : ¬ a = b) : upr (upr ρ a f) b g = upr (upr ρ b g) a f := by
  funext k
  simp only [upr_eq]
  by_cases h1 : k = b
  · rw [if_pos h1, if_neg (fun z => hab (z.symm.trans h1)), if_pos h1]
  · rw [if_neg h1, if_neg h1]
theorem rS_p20 : putF (rS h φ ρ v o m st) 51 12 20 0 (aI (nI x')) = some (rS h φ ρ v o x' st) := by
  unfold rS
  rw [rp_20, upd_comm (upd φ 20 (nI m)) (a := 21) (b := 20) _ _ (by omega), upd_upd]
theorem rS_l62 (hj : j < 24) : ldI sc (rS h φ ρ v o m st) (fun t => t == 0) (aD 61) (nI j) = some (v j) := rl_62 hj
theorem rS_l63 (hj : j < 2000) : ldI sc (rS h φ ρ v o m st) (fun t => t == 0) (aD 62) (nI j) = some (o j) := rl_63 hj
theorem rS_s62 (hj : j < 24) : stI (rS h φ ρ v o m st) (fun t => t == 0) 61 (nI j) x = some (rS h φ ρ (upd v j x) o m st) := by
  unfold rS
  rw [rs_62 hj, upr_comm (upr ρ 61 v) (a := 62) (b := 61) _ _ (by omega), upr_upr]
  rfl
theorem rS_s63 (hj : j < 2000) : stI (rS h φ ρ v o m st) (fun t => t == 0) 62 (nI j) x = some (rS h φ ρ v (upd o j x) m st) := by
  unfold rS
  rw [rs_63 hj, upr_upr]
  rfl
/-- the parts of the one or the other form -/
def PP (sc : SC) (h : AH) (φ : Nat → Int32) (ρ : Nat → Nat → Int32) (hs : Bool) (n : Nat) (X : Nat → Nat → Int32) : Prop := n ≤ 60 ∧ (VK n X ∧ VG n X ∧ VT n X) ∧ (hs = true → WF n X) ∧ (∀ v o m st i w, i < n → w < 4 → Call sc n_X10_partOf [aD 51, aI (zI hs), aI (nI i), aI (nI w)] (rS h φ ρ v o m st) = some (.inl (some (aI (X i w))), rS h φ ρ v o m st)) ∧ (hs = true → ∀ v o m st i, i < n → Call sc n_X10_at [aD 51, aI (nI i), aI (nI 4)] (rS h φ ρ v o m st) = some (.inl (some (aI (X i 4))), rS h φ ρ v o m st))
theorem swE (hk : n < 12) : (if (nI n).toInt < 1 ∨ 7 < (nI n).toInt then 247 else ([84, 95, 111, 135, 159, 189, 219] : List Nat).getD ((nI n).toInt - 1).toNat 0) = ([247, 84, 95, 111, 135, 159, 189, 219, 247, 247, 247, 247] : List Nat).getD n 0 := by
  rcases twelve hk with rfl | rfl | rfl | rfl | rfl | rfl | rfl | rfl | rfl | rfl | rfl | rfl <;> decide
theorem r_execute (hp : PP sc h φ ρ hs n X) (hi : i < n) (hm : m < 2000) : Call sc n_X10_execute [aD 51, aI (zI hs), aI (nI i)] (rS h φ ρ v o m st) = some (.inl none, rS h φ ρ (pfV X i v) (pfO X i v o m) (pfN X i m) (st + 1)) := by
  obtain ⟨hn, ⟨hv, hg, ht⟩, _, hP, _⟩ := hp
  have r1 := hg.r1 hi
  have r2 := hg.r2 hi
  have k0 := hv i hi
  have e0 := fun v o m st => hP v o m st i 0 hi (by omega)
  have e1 := fun v o m st => hP v o m st i 1 hi (by omega)
  have e2 := fun v o m st => hP v o m st i 2 hi (by omega)
  have e3 := fun v o m st => hP v o m st i 3 hi (by omega)
  rw [k0.1] at e0
  rw [r1.1] at e1
  rw [r2.1] at e2
  have q1 := fun m st => rS_l62 (sc := sc) (h := h) (φ := φ) (ρ := ρ) (v := v) (o := o) (m := m) (st := st) (show rg X i 1 < 24 by omega)
  have q2 := fun m st => rS_l62 (sc := sc) (h := h) (φ := φ) (ρ := ρ) (v := v) (o := o) (m := m) (st := st) (show rg X i 2 < 24 by omega)
  have s1 := fun x m st => rS_s62 (h := h) (φ := φ) (ρ := ρ) (v := v) (o := o) (m := m) (st := st) (x := x) (show rg X i 1 < 24 by omega)
  have fin : ∀ H l, Run sc n_X10_execute 247 l none [] H = Run sc n_X10_execute 247 l none [] H := fun _ _ => rfl
  have hst : Call sc n_X10_execute [aD 51, aI (zI hs), aI (nI i)] (rS h φ ρ v o m st) = Run sc n_X10_execute (([247, 84, 95, 111, 135, 159, 189, 219, 247, 247, 247, 247] : List Nat).getD (kx X i) 0) [aD 51, aI (zI hs), aI (nI i), aI (nI (rg X i 1)), aI (nI (rg X i 2)), aI (X i 3)] none [] (rS h φ ρ v o m (st + 1)) := by
    simp only [c0_X10_execute, e_X10_execute_0, e_X10_execute_7, e_X10_execute_15, e_X10_execute_24, e_X10_execute_31, e_X10_execute_36, e_X10_execute_43, rS_ok, rS_18, rS_19, rS_20, rS_21, rS_p21, rS_p20, bO_some, bF_I, bF_D, bF_C, bC_v, pk_mul, nI_add, Option.toList, List.cons_append, List.nil_append, e0, e1, e2, e3, swE k0.2]
  rw [hst]
  rcases twelve k0.2 with hk | hk | hk | hk | hk | hk | hk | hk | hk | hk | hk | hk
  · rw [hk, show pfV X i v = v from by unfold pfV; rw [hk]; rfl, show pfO X i v o m = o from by unfold pfO; rw [hk]; rfl, show pfN X i m = m from by unfold pfN; rw [hk]; rfl]
    exact e_X10_execute_247 ..
  · rw [hk, show pfV X i v = upd v (rg X i 1) (X i 3) from by unfold pfV; rw [hk]; rfl, show pfO X i v o m = o from by unfold pfO; rw [hk]; rfl, show pfN X i m = m from by unfold pfN; rw [hk]; rfl]
    show Run sc n_X10_execute 84 _ none [] _ = _
    simp only [e_X10_execute_84, e_X10_execute_88, e_X10_execute_92, e_X10_execute_247, rS_ok, rS_18, rS_19, rS_20, rS_21, rS_p21, rS_p20, bO_some, bF_I, bF_D, bF_C, bC_v, pk_mul, nI_add, Option.toList, List.cons_append, List.nil_append, s1]
  · rw [hk, show pfV X i v = upd v (rg X i 1) (v (rg X i 2)) from by unfold pfV; rw [hk]; rfl, show pfO X i v o m = o from by unfold pfO; rw [hk]; rfl, show pfN X i m = m from by unfold pfN; rw [hk]; rfl]
    show Run sc n_X10_execute 95 _ none [] _ = _
    simp only [e_X10_execute_95, e_X10_execute_99, e_X10_execute_104, e_X10_execute_107, e_X10_execute_108, e_X10_execute_247, rS_ok, rS_18, rS_19, rS_20, rS_21, rS_p21, rS_p20, bO_some, bF_I, bF_D, bF_C, bC_v, pk_mul, nI_add, Option.toList, List.cons_append, List.nil_append, q2, s1]
  · rw [hk, show pfV X i v = upd v (rg X i 1) (v (rg X i 2) + v (rg X i 3)) from by unfold pfV; rw [hk]; rfl, show pfO X i v o m = o from by unfold pfO; rw [hk]; rfl, show pfN X i m = m from by unfold pfN; rw [hk]; rfl]
    have r3 := hg.r3 hi (by rw [hk]; rfl)
    have q3 := fun m st => rS_l62 (sc := sc) (h := h) (φ := φ) (ρ := ρ) (v := v) (o := o) (m := m) (st := st) (show rg X i 3 < 24 by omega)
    rw [r3.1]
    show Run sc n_X10_execute 111 _ none [] _ = _
    simp only [e_X10_execute_111, e_X10_execute_115, e_X10_execute_120, e_X10_execute_123, e_X10_execute_127, e_X10_execute_130, e_X10_execute_132, e_X10_execute_247, rS_ok, rS_18, rS_19, rS_20, rS_21, rS_p21, rS_p20, bO_some, bF_I, bF_D, bF_C, bC_v, pk_mul, nI_add, Option.toList, List.cons_append, List.nil_append, q2, q3, s1]
  · rw [hk, show pfV X i v = upd v (rg X i 1) (v (rg X i 2) - v (rg X i 3)) from by unfold pfV; rw [hk]; rfl, show pfO X i v o m = o from by unfold pfO; rw [hk]; rfl, show pfN X i m = m from by unfold pfN; rw [hk]; rfl]
    have r3 := hg.r3 hi (by rw [hk]; rfl)
    have q3 := fun m st => rS_l62 (sc := sc) (h := h) (φ := φ) (ρ := ρ) (v := v) (o := o) (m := m) (st := st) (show rg X i 3 < 24 by omega)
    rw [r3.1]
    show Run sc n_X10_execute 135 _ none [] _ = _
    simp only [e_X10_execute_135, e_X10_execute_139, e_X10_execute_144, e_X10_execute_147, e_X10_execute_151, e_X10_execute_154, e_X10_execute_156, e_X10_execute_247, rS_ok, rS_18, rS_19, rS_20, rS_21, rS_p21, rS_p20, bO_some, bF_I, bF_D, bF_C, bC_v, pk_mul, nI_add, Option.toList, List.cons_append, List.nil_append, q2, q3, s1]
  · rw [hk, show pfV X i v = upd v (rg X i 1) (v (cell X v i)) from by unfold pfV; rw [hk]; rfl, show pfO X i v o m = o from by unfold pfO; rw [hk]; rfl, show pfN X i m = m from by unfold pfN; rw [hk]; rfl]
    have hc := cell_ok X v i
    have q3 := fun m st => rS_l62 (sc := sc) (h := h) (φ := φ) (ρ := ρ) (v := v) (o := o) (m := m) (st := st) hc.2
    show Run sc n_X10_execute 159 _ none [] _ = _
    simp only [e_X10_execute_159, e_X10_execute_163, e_X10_execute_168, e_X10_execute_174, e_X10_execute_177, e_X10_execute_185, e_X10_execute_186, e_X10_execute_247, rS_ok, rS_18, rS_19, rS_20, rS_21, rS_p21, rS_p20, bO_some, bF_I, bF_D, bF_C, bC_v, pk_mul, nI_add, Option.toList, List.cons_append, List.nil_append, q2, hc.1, q3, s1]
  · rw [hk, show pfV X i v = upd v (cell X v i) (v (rg X i 1)) from by unfold pfV; rw [hk]; rfl, show pfO X i v o m = o from by unfold pfO; rw [hk]; rfl, show pfN X i m = m from by unfold pfN; rw [hk]; rfl]
    have hc := cell_ok X v i
    have s3 := fun x m st => rS_s62 (h := h) (φ := φ) (ρ := ρ) (v := v) (o := o) (m := m) (st := st) (x := x) hc.2
    show Run sc n_X10_execute 189 _ none [] _ = _
    simp only [e_X10_execute_189, e_X10_execute_193, e_X10_execute_199, e_X10_execute_202, e_X10_execute_213, e_X10_execute_215, e_X10_execute_216, e_X10_execute_247, rS_ok, rS_18, rS_19, rS_20, rS_21, rS_p21, rS_p20, bO_some, bF_I, bF_D, bF_C, bC_v, pk_mul, nI_add, Option.toList, List.cons_append, List.nil_append, q1, q2, hc.1, s3]
  · rw [hk, show pfV X i v = v from by unfold pfV; rw [hk]; rfl, show pfO X i v o m = upd o m (v (rg X i 1)) from by unfold pfO; rw [hk]; rfl, show pfN X i m = m + 1 from by unfold pfN; rw [hk]; rfl]
    have s3 := fun x st => rS_s63 (h := h) (φ := φ) (ρ := ρ) (v := v) (o := o) (m := m) (st := st) (x := x) (show m < 2000 from hm)
    show Run sc n_X10_execute 219 _ none [] _ = _
    simp only [e_X10_execute_219, e_X10_execute_223, e_X10_execute_227, e_X10_execute_231, e_X10_execute_233, e_X10_execute_234, e_X10_execute_239, e_X10_execute_244, e_X10_execute_247, rS_ok, rS_18, rS_19, rS_20, rS_21, rS_p21, rS_p20, bO_some, bF_I, bF_D, bF_C, bC_v, pk_mul, nI_add, Option.toList, List.cons_append, List.nil_append, q1, s3]
  · rw [hk, show pfV X i v = v from by unfold pfV; rw [hk]; rfl, show pfO X i v o m = o from by unfold pfO; rw [hk]; rfl, show pfN X i m = m from by unfold pfN; rw [hk]; rfl]
    exact e_X10_execute_247 ..
  · rw [hk, show pfV X i v = v from by unfold pfV; rw [hk]; rfl, show pfO X i v o m = o from by unfold pfO; rw [hk]; rfl, show pfN X i m = m from by unfold pfN; rw [hk]; rfl]
    exact e_X10_execute_247 ..
  · rw [hk, show pfV X i v = v from by unfold pfV; rw [hk]; rfl, show pfO X i v o m = o from by unfold pfO; rw [hk]; rfl, show pfN X i m = m from by unfold pfN; rw [hk]; rfl]
    exact e_X10_execute_247 ..
  · rw [hk, show pfV X i v = v from by unfold pfV; rw [hk]; rfl, show pfO X i v o m = o from by unfold pfO; rw [hk]; rfl, show pfN X i m = m from by unfold pfN; rw [hk]; rfl]
    exact e_X10_execute_247 ..
theorem r_isTaken (hp : PP sc h φ ρ hs n X) (hi : i < n) (hk : kBr (kx X i) = true) : Call sc n_X10_isTaken [aD 51, aI (zI hs), aI (nI i)] (rS h φ ρ v o m st) = some (.inl (some (aI (zI (tkX X i v)))), rS h φ ρ v o m st) := by
  obtain ⟨hn, ⟨hv, hg, ht⟩, _, hP, _⟩ := hp
  have r1 := hg.r1 hi
  have r2 := hg.r2 hi
  have k0 := hv i hi
  have e0 := fun v o m st => hP v o m st i 0 hi (by omega)
  have e1 := fun v o m st => hP v o m st i 1 hi (by omega)
  have e2 := fun v o m st => hP v o m st i 2 hi (by omega)
  rw [k0.1] at e0
  rw [r1.1] at e1
  rw [r2.1] at e2
  have q1 := rS_l62 (sc := sc) (h := h) (φ := φ) (ρ := ρ) (v := v) (o := o) (m := m) (st := st) (show rg X i 1 < 24 by omega)
  have q2 := rS_l62 (sc := sc) (h := h) (φ := φ) (ρ := ρ) (v := v) (o := o) (m := m) (st := st) (show rg X i 2 < 24 by omega)
  have b1 : ∀ b r, bI (retK (some FieldType.boolean) (zI b) = true) r = r := fun b r => bI_t (zI_ret b) r
  simp only [c0_X10_isTaken, e_X10_isTaken_0, e_X10_isTaken_7, e_X10_isTaken_12, e_X10_isTaken_19, e_X10_isTaken_20, e_X10_isTaken_26, e_X10_isTaken_33, rS_ok, rS_18, rS_19, rS_20, rS_21, rS_p21, rS_p20, bO_some, bF_I, bF_D, bF_C, bC_v, pk_mul, nI_add, Option.toList, List.cons_append, List.nil_append, e0, e1, e2, q1, q2]
  unfold tkX
  have hkx := k0.2
  generalize kx X i = k at *
  have e10 := eqI (show k < 2 ^ 31 by omega) (show 10 < 2 ^ 31 by omega)
  have e8 := eqI (show k < 2 ^ 31 by omega) (show 8 < 2 ^ 31 by omega)
  simp only [e_X10_isTaken_34, e10]
  rcases br_10 hkx hk with ⟨hc, h10⟩ | ⟨hc, h10⟩
  · rw [if_pos h10, hc, e_X10_isTaken_65, e_X10_isTaken_70]
    exact b1 true _
  · rw [if_neg h10, hc, if_pos rfl, e_X10_isTaken_42]
    simp only [e8]
    by_cases h8 : k = 8
    · rw [if_neg (fun z => z h8), if_pos h8, e_X10_isTaken_48]
      by_cases hq : v (rg X i 1) = v (rg X i 2)
      · rw [if_neg (fun z => z hq), e_X10_isTaken_55, e_X10_isTaken_65, e_X10_isTaken_70, decide_eq_true hq]
        exact b1 true _
      · rw [if_pos hq, e_X10_isTaken_69, e_X10_isTaken_70, decide_eq_false hq]
        exact b1 false _
    · rw [if_pos h8, if_neg h8, e_X10_isTaken_58]
      by_cases hq : v (rg X i 1) < v (rg X i 2)
      · rw [if_neg (Int32.not_le.mpr hq), e_X10_isTaken_65, e_X10_isTaken_70, decide_eq_true hq]
        exact b1 true _
      · rw [if_pos (Int32.not_lt.mp hq), e_X10_isTaken_69, e_X10_isTaken_70, decide_eq_false hq]
        exact b1 false _
end
