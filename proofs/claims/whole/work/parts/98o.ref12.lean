/-! PURE 62: the reference writes -/
def TX (f : Nat → Int32) (L : List Int32) : Prop := ∀ j, j < L.length → f j = L.getD j 0
def tSt (h : AH) (φ : Nat → Int32) (ρ : Nat → Nat → Int32) (L : List Int32) (f : Nat → Int32) : AH := rh h (upd φ 16 (nI L.length)) (upr ρ 59 f)
theorem nar_1 : ∀ c, c < 128 → narK 1 (nI c) = nI c := by decide +kernel
def apx (L : List Int32) (x : Int32) : List Int32 := if x = 0 then L else L ++ [x]
theorem apx_len (L : List Int32) (x : Int32) : (apx L x).length ≤ L.length + 1 := by
  unfold apx
  split
  · omega
  · rw [List.length_append]
    exact Nat.le_refl _
theorem AS_n {c : Nat} (hc : c < 128) : AS (nI c) := ⟨c, hc, rfl⟩
section
variable {sc : SC} {h : AH} {φ : Nat → Int32} {ρ : Nat → Nat → Int32} {n i j k : Nat} {x a b c d e : Int32} {L : List Int32} {f : Nat → Int32} {v2 : AV}
theorem tr_add (hx : AS x) (ht : TX f L) (hl : L.length < 1200) : ∃ f', Call sc n_X10_add [aD 51, aI x] (tSt h φ ρ L f) = some (.inl none, tSt h φ ρ (apx L x) f') ∧ TX f' (apx L x) := by
  unfold apx
  by_cases h0 : x = 0
  · subst h0
    rw [if_pos rfl]
    refine ⟨f, ?_, ht⟩
    simp only [c0_X10_add, e_X10_add_0, e_X10_add_24, if_true]
  · rw [if_neg h0]
    obtain ⟨c, hc, rfl⟩ := hx
    have hlen : (L ++ [nI c]).length = L.length + 1 := by
      rw [List.length_append]
      rfl
    refine ⟨upd f L.length (nI c), ?_, ?_⟩
    · unfold tSt
      rw [hlen]
      simp only [c0_X10_add, e_X10_add_0, e_X10_add_4, e_X10_add_8, e_X10_add_12, e_X10_add_14, e_X10_add_19, e_X10_add_24, h0, if_false, rf_0, rf_1, rf_2, rf_3, rf_4, rf_5, rf_6, rf_7, rf_8, rf_9, rf_10, rf_11, rf_12, rf_13, rf_14, rf_15, rf_16, rf_17, rf_18, rf_19, rf_20, rf_21, rf_22, rf_23, rf_24, rf_25, rf_26, rf_27, rf_28, rf_29, rf_30, rf_31, rf_32, rf_33, rf_34, rp_0, rp_2, rp_5, rp_7, rp_8, rp_9, rp_10, rp_12, rp_16, rp_20, rp_21, rp_22, rp_25, rp_27, rp_30, rp_32, bI_r, bO_some, bF_I, bF_D, bF_C, bC_v, pk_mul, nI_add, Option.toList, List.cons_append, List.nil_append, upd_eq, upr_eq, Nat.reduceEqDiff, reduceIte, rs_60 (show L.length < 1200 from hl), nar_1 c hc, upr_upr, upd_upd]
    · intro j hj
      rw [ap1 L (nI c) j hj, upd_eq, upd_eq]
      by_cases hjl : j = L.length
      · rw [if_pos hjl, if_pos hjl]
      · rw [if_neg hjl, if_neg hjl]
        exact ht j (by omega)
theorem tr_addName (ha : AS a) (hb : AS b) (hc : AS c) (hd : AS d) (he : AS e) (ht : TX f L) (hl : L.length + 5 ≤ 1200) : ∃ f', Call sc n_X10_addName [aD 51, aI a, aI b, aI c, aI d, aI e] (tSt h φ ρ L f) = some (.inl none, tSt h φ ρ (apx (apx (apx (apx (apx L a) b) c) d) e) f') ∧ TX f' (apx (apx (apx (apx (apx L a) b) c) d) e) := by
  have l1 := apx_len L a
  have l2 := apx_len (apx L a) b
  have l3 := apx_len (apx (apx L a) b) c
  have l4 := apx_len (apx (apx (apx L a) b) c) d
  obtain ⟨f1, q1, t1⟩ := tr_add (sc := sc) (h := h) (φ := φ) (ρ := ρ) ha ht (by omega)
  obtain ⟨f2, q2, t2⟩ := tr_add (sc := sc) (h := h) (φ := φ) (ρ := ρ) hb t1 (by omega)
  obtain ⟨f3, q3, t3⟩ := tr_add (sc := sc) (h := h) (φ := φ) (ρ := ρ) hc t2 (by omega)
  obtain ⟨f4, q4, t4⟩ := tr_add (sc := sc) (h := h) (φ := φ) (ρ := ρ) hd t3 (by omega)
  obtain ⟨f5, q5, t5⟩ := tr_add (sc := sc) (h := h) (φ := φ) (ρ := ρ) he t4 (by omega)
  refine ⟨f5, ?_, t5⟩
  have ok : ∀ L f r, bI (rOK sc (tSt h φ ρ L f) (aD 51) 12 = true) r = r := fun L f r => bI_r r
  simp only [c0_X10_addName, e_X10_addName_0, e_X10_addName_5, e_X10_addName_10, e_X10_addName_15, e_X10_addName_21, e_X10_addName_27, ok, bO_some, bF_I, bF_D, bF_C, bC_v, pk_mul, nI_add, Option.toList, List.cons_append, List.nil_append, q1, q2, q3, q4, q5]
theorem tr_addKind (hk : k < 12) (ht : TX f L) (hl : L.length + 5 ≤ 1200) : ∃ f', Call sc n_X10_addKind [aD 51, aI (nI k)] (tSt h φ ρ L f) = some (.inl none, tSt h φ ρ (L ++ wL k) f') ∧ TX f' (L ++ wL k) := by
  have ok : ∀ L f r, bI (rOK sc (tSt h φ ρ L f) (aD 51) 12 = true) r = r := fun L f r => bI_r r
  rcases twelve hk with rfl | rfl | rfl | rfl | rfl | rfl | rfl | rfl | rfl | rfl | rfl | rfl
  · have q := tr_addName (sc := sc) (h := h) (φ := φ) (ρ := ρ) (AS_n (c := 110) (by omega)) (AS_n (c := 111) (by omega)) (AS_n (c := 112) (by omega)) (AS_n (c := 0) (by omega)) (AS_n (c := 0) (by omega)) ht hl
    have e1 : (apx (apx (apx (apx (apx L (nI 110)) (nI 111)) (nI 112)) (nI 0)) (nI 0)) = L ++ wL 0 := by
      have z : ∀ L, apx L (nI 0) = L := fun L => if_pos rfl
      have y : ∀ L, (apx (apx (apx (apx (apx L (nI 110)) (nI 111)) (nI 112)) (nI 0)) (nI 0)) = L ++ wL 0 := fun L => by
        simp (decide := true) only [apx, if_false, if_true, List.append_assoc]
        rfl
      exact y L
    rw [e1] at q
    obtain ⟨f1, q1, t1⟩ := q
    refine ⟨f1, ?_, t1⟩
    rw [c0_X10_addKind, e_X10_addKind_0]
    refine Eq.trans (show _ = Run sc n_X10_addKind 60 [aD 51, aI (nI 0)] none [] (tSt h φ ρ L f) from rfl) ?_
    simp only [e_X10_addKind_60, e_X10_addKind_72, e_X10_addKind_75, e_X10_addKind_87, e_X10_addKind_90, e_X10_addKind_103, e_X10_addKind_106, e_X10_addKind_118, e_X10_addKind_121, e_X10_addKind_133, e_X10_addKind_136, e_X10_addKind_149, e_X10_addKind_152, e_X10_addKind_166, e_X10_addKind_169, e_X10_addKind_181, e_X10_addKind_184, e_X10_addKind_198, e_X10_addKind_201, e_X10_addKind_214, e_X10_addKind_217, e_X10_addKind_230, e_X10_addKind_233, e_X10_addKind_246, ok, bO_some, bF_I, bF_D, bF_C, bC_v, pk_mul, nI_add, Option.toList, List.cons_append, List.nil_append, q1]
  · have q := tr_addName (sc := sc) (h := h) (φ := φ) (ρ := ρ) (AS_n (c := 115) (by omega)) (AS_n (c := 101) (by omega)) (AS_n (c := 116) (by omega)) (AS_n (c := 0) (by omega)) (AS_n (c := 0) (by omega)) ht hl
    have e1 : (apx (apx (apx (apx (apx L (nI 115)) (nI 101)) (nI 116)) (nI 0)) (nI 0)) = L ++ wL 1 := by
      have z : ∀ L, apx L (nI 0) = L := fun L => if_pos rfl
      have y : ∀ L, (apx (apx (apx (apx (apx L (nI 115)) (nI 101)) (nI 116)) (nI 0)) (nI 0)) = L ++ wL 1 := fun L => by
        simp (decide := true) only [apx, if_false, if_true, List.append_assoc]
        rfl
      exact y L
    rw [e1] at q
    obtain ⟨f1, q1, t1⟩ := q
    refine ⟨f1, ?_, t1⟩
    rw [c0_X10_addKind, e_X10_addKind_0]
    refine Eq.trans (show _ = Run sc n_X10_addKind 75 [aD 51, aI (nI 1)] none [] (tSt h φ ρ L f) from rfl) ?_
    simp only [e_X10_addKind_60, e_X10_addKind_72, e_X10_addKind_75, e_X10_addKind_87, e_X10_addKind_90, e_X10_addKind_103, e_X10_addKind_106, e_X10_addKind_118, e_X10_addKind_121, e_X10_addKind_133, e_X10_addKind_136, e_X10_addKind_149, e_X10_addKind_152, e_X10_addKind_166, e_X10_addKind_169, e_X10_addKind_181, e_X10_addKind_184, e_X10_addKind_198, e_X10_addKind_201, e_X10_addKind_214, e_X10_addKind_217, e_X10_addKind_230, e_X10_addKind_233, e_X10_addKind_246, ok, bO_some, bF_I, bF_D, bF_C, bC_v, pk_mul, nI_add, Option.toList, List.cons_append, List.nil_append, q1]
  · have q := tr_addName (sc := sc) (h := h) (φ := φ) (ρ := ρ) (AS_n (c := 99) (by omega)) (AS_n (c := 111) (by omega)) (AS_n (c := 112) (by omega)) (AS_n (c := 121) (by omega)) (AS_n (c := 0) (by omega)) ht hl
    have e1 : (apx (apx (apx (apx (apx L (nI 99)) (nI 111)) (nI 112)) (nI 121)) (nI 0)) = L ++ wL 2 := by
      have z : ∀ L, apx L (nI 0) = L := fun L => if_pos rfl
      have y : ∀ L, (apx (apx (apx (apx (apx L (nI 99)) (nI 111)) (nI 112)) (nI 121)) (nI 0)) = L ++ wL 2 := fun L => by
        simp (decide := true) only [apx, if_false, if_true, List.append_assoc]
        rfl
      exact y L
    rw [e1] at q
    obtain ⟨f1, q1, t1⟩ := q
    refine ⟨f1, ?_, t1⟩
    rw [c0_X10_addKind, e_X10_addKind_0]
    refine Eq.trans (show _ = Run sc n_X10_addKind 90 [aD 51, aI (nI 2)] none [] (tSt h φ ρ L f) from rfl) ?_
    simp only [e_X10_addKind_60, e_X10_addKind_72, e_X10_addKind_75, e_X10_addKind_87, e_X10_addKind_90, e_X10_addKind_103, e_X10_addKind_106, e_X10_addKind_118, e_X10_addKind_121, e_X10_addKind_133, e_X10_addKind_136, e_X10_addKind_149, e_X10_addKind_152, e_X10_addKind_166, e_X10_addKind_169, e_X10_addKind_181, e_X10_addKind_184, e_X10_addKind_198, e_X10_addKind_201, e_X10_addKind_214, e_X10_addKind_217, e_X10_addKind_230, e_X10_addKind_233, e_X10_addKind_246, ok, bO_some, bF_I, bF_D, bF_C, bC_v, pk_mul, nI_add, Option.toList, List.cons_append, List.nil_append, q1]
  · have q := tr_addName (sc := sc) (h := h) (φ := φ) (ρ := ρ) (AS_n (c := 97) (by omega)) (AS_n (c := 100) (by omega)) (AS_n (c := 100) (by omega)) (AS_n (c := 0) (by omega)) (AS_n (c := 0) (by omega)) ht hl
    have e1 : (apx (apx (apx (apx (apx L (nI 97)) (nI 100)) (nI 100)) (nI 0)) (nI 0)) = L ++ wL 3 := by
      have z : ∀ L, apx L (nI 0) = L := fun L => if_pos rfl
      have y : ∀ L, (apx (apx (apx (apx (apx L (nI 97)) (nI 100)) (nI 100)) (nI 0)) (nI 0)) = L ++ wL 3 := fun L => by
        simp (decide := true) only [apx, if_false, if_true, List.append_assoc]
        rfl
      exact y L
    rw [e1] at q
    obtain ⟨f1, q1, t1⟩ := q
    refine ⟨f1, ?_, t1⟩
    rw [c0_X10_addKind, e_X10_addKind_0]
    refine Eq.trans (show _ = Run sc n_X10_addKind 106 [aD 51, aI (nI 3)] none [] (tSt h φ ρ L f) from rfl) ?_
    simp only [e_X10_addKind_60, e_X10_addKind_72, e_X10_addKind_75, e_X10_addKind_87, e_X10_addKind_90, e_X10_addKind_103, e_X10_addKind_106, e_X10_addKind_118, e_X10_addKind_121, e_X10_addKind_133, e_X10_addKind_136, e_X10_addKind_149, e_X10_addKind_152, e_X10_addKind_166, e_X10_addKind_169, e_X10_addKind_181, e_X10_addKind_184, e_X10_addKind_198, e_X10_addKind_201, e_X10_addKind_214, e_X10_addKind_217, e_X10_addKind_230, e_X10_addKind_233, e_X10_addKind_246, ok, bO_some, bF_I, bF_D, bF_C, bC_v, pk_mul, nI_add, Option.toList, List.cons_append, List.nil_append, q1]
  · have q := tr_addName (sc := sc) (h := h) (φ := φ) (ρ := ρ) (AS_n (c := 115) (by omega)) (AS_n (c := 117) (by omega)) (AS_n (c := 98) (by omega)) (AS_n (c := 0) (by omega)) (AS_n (c := 0) (by omega)) ht hl
    have e1 : (apx (apx (apx (apx (apx L (nI 115)) (nI 117)) (nI 98)) (nI 0)) (nI 0)) = L ++ wL 4 := by
      have z : ∀ L, apx L (nI 0) = L := fun L => if_pos rfl
      have y : ∀ L, (apx (apx (apx (apx (apx L (nI 115)) (nI 117)) (nI 98)) (nI 0)) (nI 0)) = L ++ wL 4 := fun L => by
        simp (decide := true) only [apx, if_false, if_true, List.append_assoc]
        rfl
      exact y L
    rw [e1] at q
    obtain ⟨f1, q1, t1⟩ := q
    refine ⟨f1, ?_, t1⟩
    rw [c0_X10_addKind, e_X10_addKind_0]
    refine Eq.trans (show _ = Run sc n_X10_addKind 121 [aD 51, aI (nI 4)] none [] (tSt h φ ρ L f) from rfl) ?_
    simp only [e_X10_addKind_60, e_X10_addKind_72, e_X10_addKind_75, e_X10_addKind_87, e_X10_addKind_90, e_X10_addKind_103, e_X10_addKind_106, e_X10_addKind_118, e_X10_addKind_121, e_X10_addKind_133, e_X10_addKind_136, e_X10_addKind_149, e_X10_addKind_152, e_X10_addKind_166, e_X10_addKind_169, e_X10_addKind_181, e_X10_addKind_184, e_X10_addKind_198, e_X10_addKind_201, e_X10_addKind_214, e_X10_addKind_217, e_X10_addKind_230, e_X10_addKind_233, e_X10_addKind_246, ok, bO_some, bF_I, bF_D, bF_C, bC_v, pk_mul, nI_add, Option.toList, List.cons_append, List.nil_append, q1]
  · have q := tr_addName (sc := sc) (h := h) (φ := φ) (ρ := ρ) (AS_n (c := 108) (by omega)) (AS_n (c := 111) (by omega)) (AS_n (c := 97) (by omega)) (AS_n (c := 100) (by omega)) (AS_n (c := 0) (by omega)) ht hl
    have e1 : (apx (apx (apx (apx (apx L (nI 108)) (nI 111)) (nI 97)) (nI 100)) (nI 0)) = L ++ wL 5 := by
      have z : ∀ L, apx L (nI 0) = L := fun L => if_pos rfl
      have y : ∀ L, (apx (apx (apx (apx (apx L (nI 108)) (nI 111)) (nI 97)) (nI 100)) (nI 0)) = L ++ wL 5 := fun L => by
        simp (decide := true) only [apx, if_false, if_true, List.append_assoc]
        rfl
      exact y L
    rw [e1] at q
    obtain ⟨f1, q1, t1⟩ := q
    refine ⟨f1, ?_, t1⟩
    rw [c0_X10_addKind, e_X10_addKind_0]
    refine Eq.trans (show _ = Run sc n_X10_addKind 136 [aD 51, aI (nI 5)] none [] (tSt h φ ρ L f) from rfl) ?_
    simp only [e_X10_addKind_60, e_X10_addKind_72, e_X10_addKind_75, e_X10_addKind_87, e_X10_addKind_90, e_X10_addKind_103, e_X10_addKind_106, e_X10_addKind_118, e_X10_addKind_121, e_X10_addKind_133, e_X10_addKind_136, e_X10_addKind_149, e_X10_addKind_152, e_X10_addKind_166, e_X10_addKind_169, e_X10_addKind_181, e_X10_addKind_184, e_X10_addKind_198, e_X10_addKind_201, e_X10_addKind_214, e_X10_addKind_217, e_X10_addKind_230, e_X10_addKind_233, e_X10_addKind_246, ok, bO_some, bF_I, bF_D, bF_C, bC_v, pk_mul, nI_add, Option.toList, List.cons_append, List.nil_append, q1]
  · have q := tr_addName (sc := sc) (h := h) (φ := φ) (ρ := ρ) (AS_n (c := 115) (by omega)) (AS_n (c := 116) (by omega)) (AS_n (c := 111) (by omega)) (AS_n (c := 114) (by omega)) (AS_n (c := 101) (by omega)) ht hl
    have e1 : (apx (apx (apx (apx (apx L (nI 115)) (nI 116)) (nI 111)) (nI 114)) (nI 101)) = L ++ wL 6 := by
      have z : ∀ L, apx L (nI 0) = L := fun L => if_pos rfl
      have y : ∀ L, (apx (apx (apx (apx (apx L (nI 115)) (nI 116)) (nI 111)) (nI 114)) (nI 101)) = L ++ wL 6 := fun L => by
        simp (decide := true) only [apx, if_false, if_true, List.append_assoc]
        rfl
      exact y L
    rw [e1] at q
    obtain ⟨f1, q1, t1⟩ := q
    refine ⟨f1, ?_, t1⟩
    rw [c0_X10_addKind, e_X10_addKind_0]
    refine Eq.trans (show _ = Run sc n_X10_addKind 152 [aD 51, aI (nI 6)] none [] (tSt h φ ρ L f) from rfl) ?_
    simp only [e_X10_addKind_60, e_X10_addKind_72, e_X10_addKind_75, e_X10_addKind_87, e_X10_addKind_90, e_X10_addKind_103, e_X10_addKind_106, e_X10_addKind_118, e_X10_addKind_121, e_X10_addKind_133, e_X10_addKind_136, e_X10_addKind_149, e_X10_addKind_152, e_X10_addKind_166, e_X10_addKind_169, e_X10_addKind_181, e_X10_addKind_184, e_X10_addKind_198, e_X10_addKind_201, e_X10_addKind_214, e_X10_addKind_217, e_X10_addKind_230, e_X10_addKind_233, e_X10_addKind_246, ok, bO_some, bF_I, bF_D, bF_C, bC_v, pk_mul, nI_add, Option.toList, List.cons_append, List.nil_append, q1]
  · have q := tr_addName (sc := sc) (h := h) (φ := φ) (ρ := ρ) (AS_n (c := 111) (by omega)) (AS_n (c := 117) (by omega)) (AS_n (c := 116) (by omega)) (AS_n (c := 0) (by omega)) (AS_n (c := 0) (by omega)) ht hl
    have e1 : (apx (apx (apx (apx (apx L (nI 111)) (nI 117)) (nI 116)) (nI 0)) (nI 0)) = L ++ wL 7 := by
      have z : ∀ L, apx L (nI 0) = L := fun L => if_pos rfl
      have y : ∀ L, (apx (apx (apx (apx (apx L (nI 111)) (nI 117)) (nI 116)) (nI 0)) (nI 0)) = L ++ wL 7 := fun L => by
        simp (decide := true) only [apx, if_false, if_true, List.append_assoc]
        rfl
      exact y L
    rw [e1] at q
    obtain ⟨f1, q1, t1⟩ := q
    refine ⟨f1, ?_, t1⟩
    rw [c0_X10_addKind, e_X10_addKind_0]
    refine Eq.trans (show _ = Run sc n_X10_addKind 169 [aD 51, aI (nI 7)] none [] (tSt h φ ρ L f) from rfl) ?_
    simp only [e_X10_addKind_60, e_X10_addKind_72, e_X10_addKind_75, e_X10_addKind_87, e_X10_addKind_90, e_X10_addKind_103, e_X10_addKind_106, e_X10_addKind_118, e_X10_addKind_121, e_X10_addKind_133, e_X10_addKind_136, e_X10_addKind_149, e_X10_addKind_152, e_X10_addKind_166, e_X10_addKind_169, e_X10_addKind_181, e_X10_addKind_184, e_X10_addKind_198, e_X10_addKind_201, e_X10_addKind_214, e_X10_addKind_217, e_X10_addKind_230, e_X10_addKind_233, e_X10_addKind_246, ok, bO_some, bF_I, bF_D, bF_C, bC_v, pk_mul, nI_add, Option.toList, List.cons_append, List.nil_append, q1]
  · have q := tr_addName (sc := sc) (h := h) (φ := φ) (ρ := ρ) (AS_n (c := 101) (by omega)) (AS_n (c := 113) (by omega)) (AS_n (c := 117) (by omega)) (AS_n (c := 97) (by omega)) (AS_n (c := 108) (by omega)) ht hl
    have e1 : (apx (apx (apx (apx (apx L (nI 101)) (nI 113)) (nI 117)) (nI 97)) (nI 108)) = L ++ wL 8 := by
      have z : ∀ L, apx L (nI 0) = L := fun L => if_pos rfl
      have y : ∀ L, (apx (apx (apx (apx (apx L (nI 101)) (nI 113)) (nI 117)) (nI 97)) (nI 108)) = L ++ wL 8 := fun L => by
        simp (decide := true) only [apx, if_false, if_true, List.append_assoc]
        rfl
      exact y L
    rw [e1] at q
    obtain ⟨f1, q1, t1⟩ := q
    refine ⟨f1, ?_, t1⟩
    rw [c0_X10_addKind, e_X10_addKind_0]
    refine Eq.trans (show _ = Run sc n_X10_addKind 184 [aD 51, aI (nI 8)] none [] (tSt h φ ρ L f) from rfl) ?_
    simp only [e_X10_addKind_60, e_X10_addKind_72, e_X10_addKind_75, e_X10_addKind_87, e_X10_addKind_90, e_X10_addKind_103, e_X10_addKind_106, e_X10_addKind_118, e_X10_addKind_121, e_X10_addKind_133, e_X10_addKind_136, e_X10_addKind_149, e_X10_addKind_152, e_X10_addKind_166, e_X10_addKind_169, e_X10_addKind_181, e_X10_addKind_184, e_X10_addKind_198, e_X10_addKind_201, e_X10_addKind_214, e_X10_addKind_217, e_X10_addKind_230, e_X10_addKind_233, e_X10_addKind_246, ok, bO_some, bF_I, bF_D, bF_C, bC_v, pk_mul, nI_add, Option.toList, List.cons_append, List.nil_append, q1]
  · have q := tr_addName (sc := sc) (h := h) (φ := φ) (ρ := ρ) (AS_n (c := 108) (by omega)) (AS_n (c := 101) (by omega)) (AS_n (c := 115) (by omega)) (AS_n (c := 115) (by omega)) (AS_n (c := 0) (by omega)) ht hl
    have e1 : (apx (apx (apx (apx (apx L (nI 108)) (nI 101)) (nI 115)) (nI 115)) (nI 0)) = L ++ wL 9 := by
      have z : ∀ L, apx L (nI 0) = L := fun L => if_pos rfl
      have y : ∀ L, (apx (apx (apx (apx (apx L (nI 108)) (nI 101)) (nI 115)) (nI 115)) (nI 0)) = L ++ wL 9 := fun L => by
        simp (decide := true) only [apx, if_false, if_true, List.append_assoc]
        rfl
      exact y L
    rw [e1] at q
    obtain ⟨f1, q1, t1⟩ := q
    refine ⟨f1, ?_, t1⟩
    rw [c0_X10_addKind, e_X10_addKind_0]
    refine Eq.trans (show _ = Run sc n_X10_addKind 201 [aD 51, aI (nI 9)] none [] (tSt h φ ρ L f) from rfl) ?_
    simp only [e_X10_addKind_60, e_X10_addKind_72, e_X10_addKind_75, e_X10_addKind_87, e_X10_addKind_90, e_X10_addKind_103, e_X10_addKind_106, e_X10_addKind_118, e_X10_addKind_121, e_X10_addKind_133, e_X10_addKind_136, e_X10_addKind_149, e_X10_addKind_152, e_X10_addKind_166, e_X10_addKind_169, e_X10_addKind_181, e_X10_addKind_184, e_X10_addKind_198, e_X10_addKind_201, e_X10_addKind_214, e_X10_addKind_217, e_X10_addKind_230, e_X10_addKind_233, e_X10_addKind_246, ok, bO_some, bF_I, bF_D, bF_C, bC_v, pk_mul, nI_add, Option.toList, List.cons_append, List.nil_append, q1]
  · have q := tr_addName (sc := sc) (h := h) (φ := φ) (ρ := ρ) (AS_n (c := 106) (by omega)) (AS_n (c := 117) (by omega)) (AS_n (c := 109) (by omega)) (AS_n (c := 112) (by omega)) (AS_n (c := 0) (by omega)) ht hl
    have e1 : (apx (apx (apx (apx (apx L (nI 106)) (nI 117)) (nI 109)) (nI 112)) (nI 0)) = L ++ wL 10 := by
      have z : ∀ L, apx L (nI 0) = L := fun L => if_pos rfl
      have y : ∀ L, (apx (apx (apx (apx (apx L (nI 106)) (nI 117)) (nI 109)) (nI 112)) (nI 0)) = L ++ wL 10 := fun L => by
        simp (decide := true) only [apx, if_false, if_true, List.append_assoc]
        rfl
      exact y L
    rw [e1] at q
    obtain ⟨f1, q1, t1⟩ := q
    refine ⟨f1, ?_, t1⟩
    rw [c0_X10_addKind, e_X10_addKind_0]
    refine Eq.trans (show _ = Run sc n_X10_addKind 217 [aD 51, aI (nI 10)] none [] (tSt h φ ρ L f) from rfl) ?_
    simp only [e_X10_addKind_60, e_X10_addKind_72, e_X10_addKind_75, e_X10_addKind_87, e_X10_addKind_90, e_X10_addKind_103, e_X10_addKind_106, e_X10_addKind_118, e_X10_addKind_121, e_X10_addKind_133, e_X10_addKind_136, e_X10_addKind_149, e_X10_addKind_152, e_X10_addKind_166, e_X10_addKind_169, e_X10_addKind_181, e_X10_addKind_184, e_X10_addKind_198, e_X10_addKind_201, e_X10_addKind_214, e_X10_addKind_217, e_X10_addKind_230, e_X10_addKind_233, e_X10_addKind_246, ok, bO_some, bF_I, bF_D, bF_C, bC_v, pk_mul, nI_add, Option.toList, List.cons_append, List.nil_append, q1]
  · have q := tr_addName (sc := sc) (h := h) (φ := φ) (ρ := ρ) (AS_n (c := 104) (by omega)) (AS_n (c := 97) (by omega)) (AS_n (c := 108) (by omega)) (AS_n (c := 116) (by omega)) (AS_n (c := 0) (by omega)) ht hl
    have e1 : (apx (apx (apx (apx (apx L (nI 104)) (nI 97)) (nI 108)) (nI 116)) (nI 0)) = L ++ wL 11 := by
      have z : ∀ L, apx L (nI 0) = L := fun L => if_pos rfl
      have y : ∀ L, (apx (apx (apx (apx (apx L (nI 104)) (nI 97)) (nI 108)) (nI 116)) (nI 0)) = L ++ wL 11 := fun L => by
        simp (decide := true) only [apx, if_false, if_true, List.append_assoc]
        rfl
      exact y L
    rw [e1] at q
    obtain ⟨f1, q1, t1⟩ := q
    refine ⟨f1, ?_, t1⟩
    rw [c0_X10_addKind, e_X10_addKind_0]
    refine Eq.trans (show _ = Run sc n_X10_addKind 233 [aD 51, aI (nI 11)] none [] (tSt h φ ρ L f) from rfl) ?_
    simp only [e_X10_addKind_60, e_X10_addKind_72, e_X10_addKind_75, e_X10_addKind_87, e_X10_addKind_90, e_X10_addKind_103, e_X10_addKind_106, e_X10_addKind_118, e_X10_addKind_121, e_X10_addKind_133, e_X10_addKind_136, e_X10_addKind_149, e_X10_addKind_152, e_X10_addKind_166, e_X10_addKind_169, e_X10_addKind_181, e_X10_addKind_184, e_X10_addKind_198, e_X10_addKind_201, e_X10_addKind_214, e_X10_addKind_217, e_X10_addKind_230, e_X10_addKind_233, e_X10_addKind_246, ok, bO_some, bF_I, bF_D, bF_C, bC_v, pk_mul, nI_add, Option.toList, List.cons_append, List.nil_append, q1]
theorem tr_add1 (hx : AS x) (h0 : ¬ x = 0) (ht : TX f L) (hl : L.length < 1200) : ∃ f', Call sc n_X10_add [aD 51, aI x] (tSt h φ ρ L f) = some (.inl none, tSt h φ ρ (L ++ [x]) f') ∧ TX f' (L ++ [x]) := by
  have q := tr_add (sc := sc) (h := h) (φ := φ) (ρ := ρ) hx ht hl
  have e1 : apx L x = L ++ [x] := if_neg h0
  rw [e1] at q
  exact q
theorem nI_n0 {c : Nat} (h0 : 0 < c) (hc : c < 2 ^ 31) : ¬ nI c = 0 := fun z => by
  have := nI_inj (b := 0) hc (by omega) z
  omega
theorem tr_dig (ha : k < 100) (ht : TX f L) (hl : L.length + 2 ≤ 1200) : ∃ f', Run sc n_X10_addNumber 21 [aD 51, aI x, aI (nI k)] none [] (tSt h φ ρ L f) = some (.inl none, tSt h φ ρ (L ++ dgT k) f') ∧ TX f' (L ++ dgT k) := by
  have ok : ∀ L f r, bI (rOK sc (tSt h φ ρ L f) (aD 51) 12 = true) r = r := fun L f r => bI_r r
  have hd := dig_1 k ha
  have hb : ∀ r : Option Res, bI (¬ nI 10 = 0) r = r := fun r => bI_t (by decide) r
  unfold dgT
  by_cases h10 : k < 10
  · rw [if_pos h10]
    obtain ⟨f1, q1, t1⟩ := tr_add1 (sc := sc) (h := h) (φ := φ) (ρ := ρ) (x := nI (48 + k % 10)) (AS_n (by omega)) (nI_n0 (by omega) (by omega)) ht (by omega)
    refine ⟨f1, ?_, t1⟩
    rw [e_X10_addNumber_21, if_pos (nI_le (by omega) (by omega))]
    simp only [e_X10_addNumber_39, e_X10_addNumber_46, e_X10_addNumber_51, hb, ok, hd.2.1, q1, bO_some, bF_I, bF_D, bF_C, bC_v, pk_mul, nI_add, Option.toList, List.cons_append, List.nil_append]
  · rw [if_neg h10]
    obtain ⟨f1, q1, t1⟩ := tr_add1 (sc := sc) (h := h) (φ := φ) (ρ := ρ) (x := nI (48 + k / 10)) (AS_n (by omega)) (nI_n0 (by omega) (by omega)) ht (by omega)
    obtain ⟨f2, q2, t2⟩ := tr_add1 (sc := sc) (h := h) (φ := φ) (ρ := ρ) (x := nI (48 + k % 10)) (AS_n (by omega)) (nI_n0 (by omega) (by omega)) t1 (by rw [List.length_append]; show L.length + 1 < 1200; omega)
    rw [List.append_assoc] at q2 t2
    refine ⟨f2, ?_, t2⟩
    rw [e_X10_addNumber_21, if_neg (nI_ge (by omega) (by omega))]
    simp only [e_X10_addNumber_27, e_X10_addNumber_34, e_X10_addNumber_39, e_X10_addNumber_46, e_X10_addNumber_51, hb, ok, hd.1, hd.2.1, q1, bO_some, bF_I, bF_D, bF_C, bC_v, pk_mul, nI_add, Option.toList, List.cons_append, List.nil_append]
    simp only [ok, q2, bO_some, bF_I, bF_D, bF_C, bC_v, pk_mul, nI_add, Option.toList, List.cons_append, List.nil_append, e_X10_addNumber_51]
theorem tr_addNumber (h1 : -100 < x.toInt) (h2 : x.toInt < 100) (ht : TX f L) (hl : L.length + 4 ≤ 1200) : ∃ f', Call sc n_X10_addNumber [aD 51, aI x] (tSt h φ ρ L f) = some (.inl none, tSt h φ ρ (L ++ nI 32 :: nmT x) f') ∧ TX f' (L ++ nI 32 :: nmT x) := by
  have ok : ∀ L f r, bI (rOK sc (tSt h φ ρ L f) (aD 51) 12 = true) r = r := fun L f r => bI_r r
  obtain ⟨f1, q1, t1⟩ := tr_add1 (sc := sc) (h := h) (φ := φ) (ρ := ρ) (x := nI 32) (AS_n (by omega)) (by decide) ht (by omega)
  have hl1 : (L ++ [nI 32]).length = L.length + 1 := by
    rw [List.length_append]
    rfl
  rcases sgn_x h1 h2 with ⟨a, ha, rfl⟩ | ⟨a, ha0, ha, rfl⟩
  · have hn : nmT (nI a) = dgT a := by
      unfold nmT
      rw [if_neg (nI_pos (by omega)), nI_clamp (by omega)]
    obtain ⟨f2, q2, t2⟩ := tr_dig (sc := sc) (h := h) (φ := φ) (ρ := ρ) (x := nI a) ha t1 (by omega)
    have e1 : (L ++ [nI 32]) ++ dgT a = L ++ nI 32 :: nmT (nI a) := by
      rw [hn, List.append_assoc]
      rfl
    rw [e1] at q2 t2
    refine ⟨f2, ?_, t2⟩
    simp only [c0_X10_addNumber, e_X10_addNumber_0, ok, q1, bO_some, bF_I, bF_D, bF_C, bC_v, pk_mul, nI_add, Option.toList, List.cons_append, List.nil_append, e_X10_addNumber_6, show (0 ≤ nI a) = True from eq_true (Int32.not_lt.mp (nI_pos (by omega))), if_true]
    exact q2
  · have hd := dig_1 a ha
    have hneg : -(nI a) < 0 ∧ ¬ 0 ≤ -(nI a) := by
      rcases hd.2.2.2.2 with h9 | h9
      · omega
      · exact h9
    have hn : nmT (-(nI a)) = nI 45 :: dgT a := by
      unfold nmT
      rw [if_pos hneg.1, hd.2.2.2.1, nI_clamp (by omega)]
    obtain ⟨f2, q2, t2⟩ := tr_add1 (sc := sc) (h := h) (φ := φ) (ρ := ρ) (x := nI 45) (AS_n (by omega)) (by decide) t1 (by omega)
    have hl2 : ((L ++ [nI 32]) ++ [nI 45]).length = L.length + 2 := by
      rw [List.length_append, hl1]
      rfl
    obtain ⟨f3, q3, t3⟩ := tr_dig (sc := sc) (h := h) (φ := φ) (ρ := ρ) (x := -(nI a)) ha t2 (by omega)
    have e1 : ((L ++ [nI 32]) ++ [nI 45]) ++ dgT a = L ++ nI 32 :: nmT (-(nI a)) := by
      rw [hn, List.append_assoc, List.append_assoc]
      rfl
    rw [e1] at q3 t3
    refine ⟨f3, ?_, t3⟩
    simp only [c0_X10_addNumber, e_X10_addNumber_0, ok, q1, bO_some, bF_I, bF_D, bF_C, bC_v, pk_mul, nI_add, Option.toList, List.cons_append, List.nil_append, e_X10_addNumber_6, hneg.2, if_false, e_X10_addNumber_12, q2, e_X10_addNumber_18, hd.2.2.2.1]
    exact q3
end
