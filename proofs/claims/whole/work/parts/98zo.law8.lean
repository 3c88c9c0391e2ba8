/-! PURE 88: the law's loop; the pure theorem -/
theorem and31 (y : Int32) : ∃ t, t < 32 ∧ y &&& nI 31 = nI t := by
  refine ⟨(y.toBitVec &&& 31#32).toNat, ?_, ?_⟩
  · rw [BitVec.toNat_and]
    exact Nat.lt_of_le_of_lt Nat.and_le_right (by decide)
  · apply Int32.toBitVec_inj.mp
    show y.toBitVec &&& (nI 31).toBitVec = BitVec.ofNat 32 _
    rw [show (nI 31).toBitVec = 31#32 from rfl, BitVec.ofNat_toNat, BitVec.setWidth_eq]
theorem swl : ∀ t, t < 32 → (if (nI t).toInt < 0 ∨ 26 < (nI t).toInt then 1606 else ([168, 226, 270, 283, 296, 364, 377, 390, 458, 514, 570, 645, 713, 781, 849, 893, 906, 962, 1058, 1142, 1226, 1270, 1326, 1394, 1483, 1549, 1562] : List Nat).getD ((nI t).toInt - 0).toNat 0) = ([168, 226, 270, 283, 296, 364, 377, 390, 458, 514, 570, 645, 713, 781, 849, 893, 906, 962, 1058, 1142, 1226, 1270, 1326, 1394, 1483, 1549, 1562] : List Nat).getD t 1606 := by decide +kernel
theorem cmp4 {L j : Nat} (hL : L ≤ 2048) (hj : j ≤ 2048) : (nI L - nI 4 < nI j) ↔ L < j + 4 := by
  rw [Int32.lt_iff_toInt_lt, nI_toInt (show j < 2 ^ 31 by omega)]
  by_cases h4 : 4 ≤ L
  · rw [nI_sb h4, nI_toInt (by omega)]
    omega
  · have hs : L = 0 ∨ L = 1 ∨ L = 2 ∨ L = 3 := by omega
    have a0 : (nI 0 - nI 4).toInt = -4 := by decide
    have a1 : (nI 1 - nI 4).toInt = -3 := by decide
    have a2 : (nI 2 - nI 4).toInt = -2 := by decide
    have a3 : (nI 3 - nI 4).toInt = -1 := by decide
    rcases hs with rfl | rfl | rfl | rfl
    · rw [a0]
      omega
    · rw [a1]
      omega
    · rw [a2]
      omega
    · rw [a3]
      omega
section
variable {sc : SC} {h : AH} {i j L : Nat} {xs : Nat → Int32}
theorem INV.mono {i' : Nat} (g : INV h i) (hi : i ≤ i') : INV h i' := ⟨Nat.le_trans g.1 hi, g.2⟩
theorem win_end (g : INV h i) (hi : i ≤ 512) : Win (some (.inl (some (aI (nI 1))), h)) := by
  obtain ⟨he, _, _, _, _, _, _, _, _, _, _, _, _, _, _, _, _, gc, _, _⟩ := g
  obtain ⟨_, h1, h2⟩ := gc.2.1
  refine ⟨h, rfl, ?_, ?_⟩
  · show h.1.length + h.2 ≤ _
    omega
  · omega
theorem l_law (hL : L ≤ 2048) (hln : ∀ h', lenA sc h' (aC 0) = some L) (hc : ∀ h' t, t < L → ldI sc h' (fun t => t == 0) (aC 0) (nI t) = some (xs t)) : ∀ d i j, j = 4 * i → L ≤ j + 4 * d → j ≤ L → ∀ h, INV h i → ∀ v6 v7 v8 dl, Win (Run sc n_L_law 28 [aC 0, aD 0, aD 51, aD 71, aD 72, aI (nI j), v6, v7, v8] dl [] h) := by
  intro d
  have hstop : ∀ i j, j = 4 * i → j ≤ L → L < j + 4 → ∀ h, INV h i → ∀ v6 v7 v8 dl, Win (Run sc n_L_law 28 [aC 0, aD 0, aD 51, aD 71, aD 72, aI (nI j), v6, v7, v8] dl [] h) := by
    intro i j hj hjL hst h g v6 v7 v8 dl
    rw [e_L_law_28, hln, bO_some, e_L_law_32, if_pos ((cmp4 hL (by omega)).mpr hst), e_L_law_1612]
    exact win_end g (by omega)
  induction d with
  | zero =>
    intro i j hj hd hjL h g v6 v7 v8 dl
    exact hstop i j hj hjL (by omega) h g v6 v7 v8 dl
  | succ d ih =>
    intro i j hj hd hjL h g v6 v7 v8 dl
    by_cases hst : L < j + 4
    · exact hstop i j hj hjL hst h g v6 v7 v8 dl
    · have hN : ∀ h' v6 v7 v8 dl, INV h' (i + 1) → Win (Run sc n_L_law 1606 [aC 0, aD 0, aD 51, aD 71, aD 72, aI (nI j), v6, v7, v8] dl [] h') := by
        intro h' v6 v7 v8 dl g'
        rw [e_L_law_1606, nI_add]
        exact ih (i + 1) (j + 4) (by omega) (by omega) (by omega) h' g' v6 v7 v8 _
      rw [e_L_law_28, hln, bO_some, e_L_law_32, if_neg (fun z => hst ((cmp4 hL (by omega)).mp z)), e_L_law_37, hc h j (by omega), bO_some, e_L_law_41]
      obtain ⟨t, ht, hy⟩ := and31 (xs j)
      rw [hy, swl t ht]
      have hsp : t = 0 ∨ t = 1 ∨ t = 2 ∨ t = 3 ∨ t = 4 ∨ t = 5 ∨ t = 6 ∨ t = 7 ∨ t = 8 ∨ t = 9 ∨ t = 10 ∨ t = 11 ∨ t = 12 ∨ t = 13 ∨ t = 14 ∨ t = 15 ∨ t = 16 ∨ t = 17 ∨ t = 18 ∨ t = 19 ∨ t = 20 ∨ t = 21 ∨ t = 22 ∨ t = 23 ∨ t = 24 ∨ t = 25 ∨ t = 26 ∨ t = 27 ∨ t = 28 ∨ t = 29 ∨ t = 30 ∨ t = 31 := by omega
      rcases hsp with rfl | rfl | rfl | rfl | rfl | rfl | rfl | rfl | rfl | rfl | rfl | rfl | rfl | rfl | rfl | rfl | rfl | rfl | rfl | rfl | rfl | rfl | rfl | rfl | rfl | rfl | rfl | rfl | rfl | rfl | rfl | rfl
      · exact case_feed hc (by omega) g hN v6 v7 v8 dl
      · exact case_parse hc (by omega) g hN v6 v7 v8 dl
      · exact case_clear hc (by omega) g hN v6 v7 v8 dl
      · exact case_instructions hc (by omega) g hN v6 v7 v8 dl
      · exact case_instruction hc (by omega) g hN v6 v7 v8 dl
      · exact case_expand hc (by omega) g hN v6 v7 v8 dl
      · exact case_entries hc (by omega) g hN v6 v7 v8 dl
      · exact case_entry hc (by omega) g hN v6 v7 v8 dl
      · exact case_count hc (by omega) g hN v6 v7 v8 dl
      · exact case_live hc (by omega) g hN v6 v7 v8 dl
      · exact case_isIndependent hc (by omega) g hN v6 v7 v8 dl
      · exact case_candidate hc (by omega) g hN v6 v7 v8 dl
      · exact case_fill hc (by omega) g hN v6 v7 v8 dl
      · exact case_fillAll hc (by omega) g hN v6 v7 v8 dl
      · exact case_undo hc (by omega) g hN v6 v7 v8 dl
      · exact case_write hc (by omega) g hN v6 v7 v8 dl
      · exact case_text hc (by omega) g hN v6 v7 v8 dl
      · exact case_setInitial hc (by omega) g hN v6 v7 v8 dl
      · exact case_run hc (by omega) g hN v6 v7 v8 dl
      · exact case_finalValue hc (by omega) g hN v6 v7 v8 dl
      · exact case_outputs hc (by omega) g hN v6 v7 v8 dl
      · exact case_output hc (by omega) g hN v6 v7 v8 dl
      · exact case_differences hc (by omega) g hN v6 v7 v8 dl
      · exact case_meanSteps hc (by omega) g hN v6 v7 v8 dl
      · exact case_filledShare hc (by omega) g hN v6 v7 v8 dl
      · exact case_save hc (by omega) g hN v6 v7 v8 dl
      · exact case_restore hc (by omega) g hN v6 v7 v8 dl
      · exact hN h v6 v7 v8 dl (g.mono (by omega))
      · exact hN h v6 v7 v8 dl (g.mono (by omega))
      · exact hN h v6 v7 v8 dl (g.mono (by omega))
      · exact hN h v6 v7 v8 dl (g.mono (by omega))
      · exact hN h v6 v7 v8 dl (g.mono (by omega))
theorem ld_0 (hL : L ≤ 2048) (h : AH) {t : Nat} (ht : t < L) : ldI (L, xs) h (fun t => t == 0) (aC 0) (nI t) = some (xs t) := by
  have hk : oget (L, xs) h (aC 0) = some (oI 0 L xs) := rfl
  unfold ldI
  rw [hk]
  show (if _ then _ else _) = _
  rw [if_pos ⟨rfl, inb_nI ht (show L < 2 ^ 31 by omega)⟩, nI_clamp (show t < 2 ^ 31 by omega)]
theorem pure_law (hL : L ≤ 2048) : ∃ h1, Run (L, xs) n_L_law 0 (ent 9 [aC 0]) none [] ([], 0) = some (.inl (some (aI 1)), h1) ∧ costC h1 ≤ 603072 ∧ costS h1 ≤ 7178346 := by
  show Win (Run (L, xs) n_L_law 0 [aC 0, aU, aU, aU, aU, aU, aU, aU, aU] none [] G0_)
  rw [e_L_law_0, gl0, gf1, gc21, bC_v, tl0, e_L_law_7, gf237, gf238, gc22, bC_v, tl0, e_L_law_15, cl_1, cb_1, gf353, gf355, e_L_law_19, cl_1, cb_1, gf356, gf358, e_L_law_23]
  exact l_law hL (fun _ => rfl) (fun h' t ht => ld_0 hL h' ht) 512 0 0 rfl (by omega) (Nat.zero_le L) _ inv_0 _ _ _ _
end
