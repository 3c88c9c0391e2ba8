/-! PURE 25: the string builder's methods -/
section
variable {sc : SC} {h h' : AH} {p q N m k i j n : Nat} {tx : Nat → Int32} {S : Nat → Prop} {x : Int32} {w : List Int32} {s : Nat}
theorem SB.txt (g : SB h p q N m tx) {tx' : Nat → Int32} (ht : ∀ i, i < m → tx' i = tx i) : SB h p q N m tx' := by
  obtain ⟨ml, b, g1, g2, g3, g4, g5, g6, g7, g8⟩ := g
  exact ⟨ml, b, g1, g2, g3, g4, g5, g6, fun i hi => by rw [ht i hi]; exact g7 i hi, g8⟩
theorem c_J5_isLatin1 (g : SB h p q N m tx) : Call sc n_J5_isLatin1_aae02 [aD p] h = some (.inl (some (aI (nI 1))), h) := by
  obtain ⟨ml, b, g1, _⟩ := g
  have f1 : getF sc h (aD p) 1 1 = some (aI 0) := getF_D g1 rfl
  simp only [c0_J5_isLatin1_aae02, e_J5_isLatin1_aae02_0, e_J5_isLatin1_aae02_6, e_J5_isLatin1_aae02_10, e_J5_isLatin1_aae02_13, e_J5_isLatin1_aae02_17, e_J5_isLatin1_aae02_18, f1, bO_some, bF_I, bF_D, bF_C, bC_v, pk_mul, nI_add, Option.toList, List.cons_append, List.nil_append, show ¬ nI 1 = 0 from by decide, zI_0, if_true, if_false, eq_self, not_true_eq_false, not_false_eq_true]
  exact bI_t rfl _
theorem c_canEncode (hx : AS x) : Call sc n_J1_canEncode_fc78d [aI x] h = some (.inl (some (aI (nI 1))), h) := by
  obtain ⟨c, hc, rfl⟩ := hx
  simp only [c0_J1_canEncode_fc78d, e_J1_canEncode_fc78d_0, e_J1_canEncode_fc78d_7, e_J1_canEncode_fc78d_11, e_J1_canEncode_fc78d_12, Int32.not_lt.mpr (nI_le (show c ≤ 255 by omega) (show 255 < 2 ^ 31 by omega)), if_false]
  exact bI_t rfl _
theorem c_append (g : SB h p q N m tx) (hx : AS x) (hm : m < 1200) : ∃ h' q' N', Call sc n_J4_append_cf468 [aD p, aI x] h = some (.inl (some (aD p)), h') ∧ SB h' p q' N' (m + 1) (upd tx m x) ∧ FB (BX p q) h h' N N' ∧ (q' = q ∨ h.1.length ≤ q') := by
  have g0 := g
  have hNm : m ≤ N := by
    obtain ⟨ml, b, g1, g2, g3, g4, _⟩ := g
    exact g4
  obtain ⟨h1, q1, N1, e1, s1, s2, s3, s4⟩ := c_ens (sc := sc) (k := m + 1) g (by omega) (by omega)
  have e2 := c_J5_isLatin1 (sc := sc) s1
  have ok1 := s1.ok (sc := sc)
  have fm : getF sc h (aD p) 1 3 = some (aI (nI m)) := by
    obtain ⟨ml, b, g1, _⟩ := g0
    exact getF_D g1 rfl
  obtain ⟨ml, b, g1, g2, g3, g4, g5, g6, g7, g8⟩ := s1
  have f0 : getF sc h1 (aD p) 1 0 = some (aD q1) := getF_D g1 rfl
  have f3 : getF sc h1 (aD p) 1 3 = some (aI (nI m)) := getF_D g1 rfl
  obtain ⟨c, hc, rfl⟩ := hx
  have hb := asc_b c hc
  have e3 : putF h1 p 1 3 0 (aI (nI (m + 1))) = some (hset h1 p (oO 1 [aD q1, aI 0, aI (zI ml), aI (nI (m + 1))])) := by
    rw [putF_D g1 (show 3 < 4 by decide) rfl]
    rfl
  have a2 : hget (hset h1 p (oO 1 [aD q1, aI 0, aI (zI ml), aI (nI (m + 1))])) q1 = some (oI 2 N1 b) := by
    rw [hget_ne (by omega)]
    exact g2
  have e4 : stI (hset h1 p (oO 1 [aD q1, aI 0, aI (zI ml), aI (nI (m + 1))])) (fun t => t == 2 || t == 3) q1 (nI m) ((nI c).toInt8.toInt32) = some (hset (hset h1 p (oO 1 [aD q1, aI 0, aI (zI ml), aI (nI (m + 1))])) q1 (oI 2 N1 (upd b m (nI c)))) := by
    rw [stI_D a2 rfl (by omega) (by omega), hb.1]
  have fr1 := fr_set (o := oO 1 [aD q1, aI 0, aI (zI ml), aI (nI (m + 1))]) g1 rfl
  have fr2 := fr_set (o := oI 2 N1 (upd b m (nI c))) a2 rfl
  refine ⟨_, q1, N1, ?_, ⟨ml, upd b m (nI c), ?_, hget_set a2, g3, by omega, g5, g6, ?_, ?_⟩, ?_, s4⟩
  · have e5 : Call sc n_J5_append_3fe6f [aD p, aI (nI c)] h = some (.inl (some (aD p)), hset (hset h1 p (oO 1 [aD q1, aI 0, aI (zI ml), aI (nI (m + 1))])) q1 (oI 2 N1 (upd b m (nI c)))) := by
      simp only [c0_J5_append_3fe6f, e_J5_append_3fe6f_0, e_J5_append_3fe6f_5, e_J5_append_3fe6f_10, e_J5_append_3fe6f_14, e_J5_append_3fe6f_17, e_J5_append_3fe6f_21, e_J5_append_3fe6f_24, e_J5_append_3fe6f_28, e_J5_append_3fe6f_33, e_J5_append_3fe6f_39, e_J5_append_3fe6f_42, e_J5_append_3fe6f_45, e_J5_append_3fe6f_49, e_J5_append_3fe6f_56, e_J5_append_3fe6f_60, e_J5_append_3fe6f_65, fm, bI_t (g0.ok (sc := sc)), e1, bI_t ok1, e2, c_canEncode ⟨c, hc, rfl⟩, f0, f3, e3, e4, bO_some, bF_I, bF_D, bF_C, bC_v, pk_mul, nI_add, Option.toList, List.cons_append, List.nil_append, show ¬ nI 1 = 0 from by decide, if_false]
    simp only [c0_J4_append_cf468, e_J4_append_cf468_0, e_J4_append_cf468_5, bI_t (g0.ok (sc := sc)), e5, bO_some, bF_I, bF_D, bF_C, bC_v, pk_mul, nI_add, Option.toList, List.cons_append, List.nil_append]
  · rw [hget_ne (by omega)]
    exact hget_set g1
  · intro i hi
    rw [upd_eq, upd_eq]
    split
    · exact ⟨rfl, c, hc, rfl⟩
    · exact g7 i (by omega)
  · intro i hi
    rw [upd_eq]
    split
    · exact hb.2.2.1
    · exact g8 i hi
  · refine s3.trans (FB.of ((fr1.mono (T := BX p q1) (fun _ z => Or.inl z)).trans (fr2.mono (fun _ z => Or.inr z)))) ?_
    intro i hi hz
    rcases hz with hz | hz
    · exact Or.inl hz
    · rcases s4 with s4 | s4
      · exact Or.inr (hz.trans s4)
      · omega
theorem AS_w : ∀ k, k < 12 → ∀ c, c ∈ wL k → c.toNatClampNeg < 128 ∧ c = nI c.toNatClampNeg := by
  intro k hk
  rcases twelve hk with rfl | rfl | rfl | rfl | rfl | rfl | rfl | rfl | rfl | rfl | rfl | rfl <;> decide
theorem AS_wd (hk : k < 12) (hi : i < (wL k).length) : AS ((wL k).getD i 0) := by
  have h1 : (wL k).getD i 0 ∈ wL k := by
    rw [List.getD_eq_getElem?_getD, List.getElem?_eq_getElem hi]
    exact List.getElem_mem hi
  have h2 := AS_w k hk _ h1
  exact ⟨_, h2.1, h2.2⟩
def apw (tx : Nat → Int32) (m : Nat) (w : List Int32) : Nat → Int32 := fun i => if m ≤ i ∧ i < m + w.length then w.getD (i - m) 0 else tx i
theorem c_appendW (g : SB h p q N m tx) (hk : k < 12) (hm : m + 5 ≤ 1200) : ∃ h' q' N', Call sc n_J4_append_15ec4 [aD p, aC (wS k)] h = some (.inl (some (aD p)), h') ∧ SB h' p q' N' (m + (wL k).length) (apw tx m (wL k)) ∧ FB (BX p q) h h' N N' ∧ (q' = q ∨ h.1.length ≤ q') := by
  have g0 := g
  have hNm : m ≤ N := by
    obtain ⟨ml, b, g1, g2, g3, g4, _⟩ := g
    exact g4
  have ks := KS_w (sc := sc) hk
  have hl5 := ks.lt
  obtain ⟨h1, q1, N1, e1, s1, s2, s3, s4⟩ := c_ens (sc := sc) (k := m + (wL k).length) g (by omega) (by omega)
  have ok1 := s1.ok (sc := sc)
  have fm : getF sc h (aD p) 1 3 = some (aI (nI m)) := by
    obtain ⟨ml, b, g1, _⟩ := g0
    exact getF_D g1 rfl
  obtain ⟨ml, b, g1, g2, g3, g4, g5, g6, g7, g8⟩ := s1
  have f0 : getF sc h1 (aD p) 1 0 = some (aD q1) := getF_D g1 rfl
  have f1 : getF sc h1 (aD p) 1 1 = some (aI 0) := getF_D g1 rfl
  have f3 : getF sc h1 (aD p) 1 3 = some (aI (nI m)) := getF_D g1 rfl
  have hc : copyA sc h1 (aC (wS k + 1)) (nI 0) q1 (nI m) (nI (wL k).length) = some (hset h1 q1 (oI 2 N1 (cpy (fun i => (wL k).getD i 0) b 0 m (wL k).length))) := by
    unfold copyA oget
    simp only [ks.2.1, g2]
    rw [nI_clamp (show (wL k).length < 2 ^ 31 by omega), nI_clamp (show m < 2 ^ 31 by omega), if_pos]
    · rfl
    · refine ⟨trivial, Or.inl trivial, by decide, nI_pos (by omega), nI_pos (by omega), by show 0 + (wL k).length ≤ (wL k).length; omega, by omega, ?_⟩
      rw [if_neg (by decide), List.all_eq_true]
      intro i hi
      rw [List.mem_range] at hi
      rw [decide_eq_true_eq]
      show narK 2 ((wL k).getD (0 + i) 0) = (wL k).getD (0 + i) 0
      obtain ⟨c, hc1, hc2⟩ := AS_wd hk (show 0 + i < (wL k).length by omega)
      rw [hc2]
      exact (asc_b c hc1).2.2.1
  have gb : Call sc n_J0_getBytes_840e7 [aC (wS k), aD q1, aI (nI m), aI 0] h1 = some (.inl none, hset h1 q1 (oI 2 N1 (cpy (fun i => (wL k).getD i 0) b 0 m (wL k).length))) := by
    simp only [c0_J0_getBytes_840e7, e_J0_getBytes_840e7_0, e_J0_getBytes_840e7_4, e_J0_getBytes_840e7_8, e_J0_getBytes_840e7_12, e_J0_getBytes_840e7_21, e_J0_getBytes_840e7_22, e_J0_getBytes_840e7_25, e_J0_getBytes_840e7_28, e_J0_getBytes_840e7_32, e_J0_getBytes_840e7_39, e_J0_getBytes_840e7_40, e_J0_getBytes_840e7_43, bI_t ks.ok, c_J0_coder ks, ks.f0, ks.len, sh0l, hc, bO_some, bF_I, bF_D, bF_C, bC_v, pk_mul, nI_add, Option.toList, List.cons_append, List.nil_append, not_true_eq_false, if_false]
  have inf : Call sc n_J5_inflateIfNeededFor_a7421 [aD p, aC (wS k)] h1 = some (.inl none, h1) := by
    simp only [c0_J5_inflateIfNeededFor_a7421, e_J5_inflateIfNeededFor_a7421_0, e_J5_inflateIfNeededFor_a7421_6, e_J5_inflateIfNeededFor_a7421_10, e_J5_inflateIfNeededFor_a7421_14, e_J5_inflateIfNeededFor_a7421_21, f1, bI_t ks.ok, c_J0_coder ks, bO_some, bF_I, bF_D, bF_C, bC_v, pk_mul, nI_add, Option.toList, List.cons_append, List.nil_append, show ¬ nI 1 = 0 from by decide, if_false, if_true]
  have ps : Call sc n_J5_putStringAt_47b60 [aD p, aI (nI m), aC (wS k)] h1 = some (.inl none, hset h1 q1 (oI 2 N1 (cpy (fun i => (wL k).getD i 0) b 0 m (wL k).length))) := by
    simp only [c0_J5_putStringAt_47b60, e_J5_putStringAt_47b60_0, e_J5_putStringAt_47b60_5, e_J5_putStringAt_47b60_10, e_J5_putStringAt_47b60_15, e_J5_putStringAt_47b60_18, bI_t ok1, inf, f0, f1, bI_t ks.ok, gb, bO_some, bF_I, bF_D, bF_C, bC_v, pk_mul, nI_add, Option.toList, List.cons_append, List.nil_append]
  have a1 : hget (hset h1 q1 (oI 2 N1 (cpy (fun i => (wL k).getD i 0) b 0 m (wL k).length))) p = some (oO 1 [aD q1, aI 0, aI (zI ml), aI (nI m)]) := by
    rw [hget_ne (by omega)]
    exact g1
  have f3' : getF sc (hset h1 q1 (oI 2 N1 (cpy (fun i => (wL k).getD i 0) b 0 m (wL k).length))) (aD p) 1 3 = some (aI (nI m)) := getF_D a1 rfl
  have e3 : putF (hset h1 q1 (oI 2 N1 (cpy (fun i => (wL k).getD i 0) b 0 m (wL k).length))) p 1 3 0 (aI (nI (m + (wL k).length))) = some (hset (hset h1 q1 (oI 2 N1 (cpy (fun i => (wL k).getD i 0) b 0 m (wL k).length))) p (oO 1 [aD q1, aI 0, aI (zI ml), aI (nI (m + (wL k).length))])) := by
    rw [putF_D a1 (show 3 < 4 by decide) rfl]
    rfl
  have fr1 := fr_set (o := oI 2 N1 (cpy (fun i => (wL k).getD i 0) b 0 m (wL k).length)) g2 rfl
  have fr2 := fr_set (o := oO 1 [aD q1, aI 0, aI (zI ml), aI (nI (m + (wL k).length))]) a1 rfl
  refine ⟨_, q1, N1, ?_, ⟨ml, cpy (fun i => (wL k).getD i 0) b 0 m (wL k).length, hget_set a1, ?_, g3, by omega, g5, g6, ?_, ?_⟩, ?_, s4⟩
  · have e5 : Call sc n_J5_append_cf1ce [aD p, aC (wS k)] h = some (.inl (some (aD p)), hset (hset h1 q1 (oI 2 N1 (cpy (fun i => (wL k).getD i 0) b 0 m (wL k).length))) p (oO 1 [aD q1, aI 0, aI (zI ml), aI (nI (m + (wL k).length))])) := by
      simp only [c0_J5_append_cf1ce, e_J5_append_cf1ce_0, e_J5_append_cf1ce_9, e_J5_append_cf1ce_13, e_J5_append_cf1ce_19, e_J5_append_cf1ce_24, e_J5_append_cf1ce_29, e_J5_append_cf1ce_33, e_J5_append_cf1ce_38, e_J5_append_cf1ce_43, bI_t ks.ok, c_J0_length ks, fm, bI_t (g0.ok (sc := sc)), e1, f3, bI_t ok1, ps, f3', e3, bO_some, bF_I, bF_D, bF_C, bC_v, pk_mul, nI_add, Option.toList, List.cons_append, List.nil_append]
    simp only [c0_J4_append_15ec4, e_J4_append_15ec4_0, e_J4_append_15ec4_5, bI_t (g0.ok (sc := sc)), e5, bO_some, bF_I, bF_D, bF_C, bC_v, pk_mul, nI_add, Option.toList, List.cons_append, List.nil_append]
  · rw [hget_ne (by omega)]
    exact hget_set g2
  · intro i hi
    unfold apw
    rw [cpy_eq]
    split
    · rw [Nat.zero_add]
      exact ⟨rfl, AS_wd hk (by omega)⟩
    · exact g7 i (by omega)
  · intro i hi
    rw [cpy_eq]
    split
    · rw [Nat.zero_add]
      obtain ⟨c, hc1, hc2⟩ := AS_wd hk (show i - m < (wL k).length by omega)
      rw [hc2]
      exact (asc_b c hc1).2.2.1
    · exact g8 i hi
  · refine s3.trans (FB.of ((fr1.mono (T := BX p q1) (fun _ z => Or.inr z)).trans (fr2.mono (fun _ z => Or.inl z)))) ?_
    intro i hi hz
    rcases hz with hz | hz
    · exact Or.inl hz
    · rcases s4 with s4 | s4
      · exact Or.inr (hz.trans s4)
      · omega
theorem c_setLength0 (g : SB h p q N m tx) : ∃ h' q' N', Call sc n_J4_setLength_d00df [aD p, aI (nI 0)] h = some (.inl none, h') ∧ SB h' p q' N' 0 tx ∧ FB (BX p q) h h' N N' ∧ (q' = q ∨ h.1.length ≤ q') := by
  have g0 := g
  obtain ⟨h1, q1, N1, e1, s1, s2, s3, s4⟩ := c_ens (sc := sc) (k := 0) g (by omega) (by omega)
  obtain ⟨ml, b, g1, g2, g3, g4, g5, g6, g7, g8⟩ := s1
  have f3 : getF sc h1 (aD p) 1 3 = some (aI (nI m)) := getF_D g1 rfl
  have h9 : nI 0 ≤ nI m := nI_le (by omega) (by omega)
  have T76 : ∀ {h2 : AH} {ml : Bool}, hget h2 p = some (oO 1 [aD q1, aI 0, aI (zI ml), aI (nI m)]) → Run sc n_J5_setLength_d00df 76 [aD p, aI (nI 0)] none [] h2 = some (.inl none, hset h2 p (oO 1 [aD q1, aI 0, aI (zI ml), aI (nI 0)])) := by
    intro h2 ml a1
    have e3 : putF h2 p 1 3 0 (aI (nI 0)) = some (hset h2 p (oO 1 [aD q1, aI 0, aI (zI ml), aI (nI 0)])) := by
      rw [putF_D a1 (show 3 < 4 by decide) rfl]
      rfl
    simp only [e_J5_setLength_d00df_76, e_J5_setLength_d00df_81, e3, bO_some, bF_I, bF_D, bF_C, bC_v, pk_mul, nI_add, Option.toList, List.cons_append, List.nil_append]
  have fin : ∀ {h2 : AH} {ml : Bool}, hget h2 p = some (oO 1 [aD q1, aI 0, aI (zI ml), aI (nI m)]) → hget h2 q1 = some (oI 2 N1 b) → Fr (fun x => x = p) h1 h2 → Call sc n_J5_setLength_d00df [aD p, aI (nI 0)] h = Run sc n_J5_setLength_d00df 76 [aD p, aI (nI 0)] none [] h2 → ∃ h' q' N', Call sc n_J4_setLength_d00df [aD p, aI (nI 0)] h = some (.inl none, h') ∧ SB h' p q' N' 0 tx ∧ FB (BX p q) h h' N N' ∧ (q' = q ∨ h.1.length ≤ q') := by
    intro h2 ml a1 a2 fr1 hc
    rw [T76 a1] at hc
    have fr2 := fr_set (o := oO 1 [aD q1, aI 0, aI (zI ml), aI (nI 0)]) a1 rfl
    refine ⟨_, q1, N1, ?_, ⟨ml, b, hget_set a1, ?_, g3, by omega, g5, g6, (fun i hi => by omega), g8⟩, ?_, s4⟩
    · simp only [c0_J4_setLength_d00df, e_J4_setLength_d00df_0, e_J4_setLength_d00df_5, bI_t (g0.ok (sc := sc)), hc, bO_some, bF_I, bF_D, bF_C, bC_v, pk_mul, nI_add, Option.toList, List.cons_append, List.nil_append]
    · rw [hget_ne (by omega)]
      exact a2
    · exact s3.trans (FB.of (fr1.trans fr2)) (fun i _ hz => Or.inl hz)
  by_cases hm : m = 0
  · refine fin (h2 := h1) (ml := ml) g1 g2 Fr.rfl ?_
    subst hm
    simp only [c0_J5_setLength_d00df, e_J5_setLength_d00df_0, e_J5_setLength_d00df_13, e_J5_setLength_d00df_18, e_J5_setLength_d00df_22, e_J5_setLength_d00df_63, e_J5_setLength_d00df_67, show (0 : Int32) ≤ nI 0 from by decide, show nI 0 ≤ nI 0 from by decide, bI_t (g0.ok (sc := sc)), e1, f3, if_true, bO_some, bF_I, bF_D, bF_C, bC_v, pk_mul, nI_add, Option.toList, List.cons_append, List.nil_append]
  · have hm2 : ¬ nI m ≤ nI 0 := nI_nle (by omega) (by omega)
    have e4 : putF h1 p 1 2 1 (aI (nI 1)) = some (hset h1 p (oO 1 [aD q1, aI 0, aI (zI true), aI (nI m)])) := by
      rw [putF_D g1 (show 2 < 4 by decide) rfl]
      rfl
    refine fin (h2 := hset h1 p (oO 1 [aD q1, aI 0, aI (zI true), aI (nI m)])) (ml := true) (hget_set g1) ?_ (fr_set g1 rfl) ?_
    · rw [hget_ne (by omega)]
      exact g2
    · simp only [c0_J5_setLength_d00df, e_J5_setLength_d00df_0, e_J5_setLength_d00df_13, e_J5_setLength_d00df_18, e_J5_setLength_d00df_22, e_J5_setLength_d00df_63, e_J5_setLength_d00df_67, e_J5_setLength_d00df_71, show (0 : Int32) ≤ nI 0 from by decide, h9, hm2, bI_t (g0.ok (sc := sc)), e1, f3, e4, if_true, if_false, bO_some, bF_I, bF_D, bF_C, bC_v, pk_mul, nI_add, Option.toList, List.cons_append, List.nil_append]
theorem c_J4_length (g : SB h p q N m tx) : Call sc n_J4_length_8abf5 [aD p] h = some (.inl (some (aI (nI m))), h) := by
  have g0 := g
  obtain ⟨ml, b, g1, _⟩ := g
  have f3 : getF sc h (aD p) 1 3 = some (aI (nI m)) := getF_D g1 rfl
  simp only [c0_J4_length_8abf5, e_J4_length_8abf5_0, e_J4_length_8abf5_4, c0_J5_length_8abf5, e_J5_length_8abf5_0, e_J5_length_8abf5_4, bI_t (g0.ok (sc := sc)), f3, bO_some, bF_I, bF_D, bF_C, bC_v, pk_mul, nI_add, Option.toList, List.cons_append, List.nil_append]
theorem c_J4_charAt (g : SB h p q N m tx) (hi : i < m) : Call sc n_J4_charAt_5068e [aD p, aI (nI i)] h = some (.inl (some (aI (tx i))), h) := by
  have g0 := g
  obtain ⟨ml, b, g1, g2, g3, g4, g5, g6, g7, g8⟩ := g
  have f0 : getF sc h (aD p) 1 0 = some (aD q) := getF_D g1 rfl
  have f1 : getF sc h (aD p) 1 1 = some (aI 0) := getF_D g1 rfl
  have f3 : getF sc h (aD p) 1 3 = some (aI (nI m)) := getF_D g1 rfl
  have hl : lenA sc h (aD q) = some N := lenA_D g2
  have hmin : (if nI N < nI m then nI N else nI m) = nI m := if_neg (Int32.not_lt.mpr (nI_le g4 (by omega)))
  have hld : ldI sc h (fun t => t == 2 || t == 3) (aD q) (nI i) = some (b i) := ldI_D g2 rfl (by omega) (by omega)
  obtain ⟨h1, c, hc1, hc2⟩ := g7 i hi
  have hb := asc_b c hc1
  rw [h1, hc2] at hld
  rw [hc2]
  have e1 : Call sc n_J5_charAt_5068e [aD p, aI (nI i)] h = some (.inl (some (aI (nI c))), h) := by
    simp only [c0_J5_charAt_5068e, e_J5_charAt_5068e_0, e_J5_charAt_5068e_4, e_J5_charAt_5068e_9, e_J5_charAt_5068e_14, e_J5_charAt_5068e_16, e_J5_charAt_5068e_29, e_J5_charAt_5068e_33, e_J5_charAt_5068e_36, f0, f1, f3, hl, sh0r, hmin, c_checkIndex hi (show m < 2 ^ 31 by omega), hld, bO_some, bF_I, bF_D, bF_C, bC_v, pk_mul, nI_add, Option.toList, List.cons_append, List.nil_append, not_true_eq_false, if_false, hb.2.1, bI_t hb.2.2.2]
  simp only [c0_J4_charAt_5068e, e_J4_charAt_5068e_0, e_J4_charAt_5068e_5, bI_t (g0.ok (sc := sc)), e1, bO_some, bF_I, bF_D, bF_C, bC_v, pk_mul, nI_add, Option.toList, List.cons_append, List.nil_append, bI_t hb.2.2.2]
end
