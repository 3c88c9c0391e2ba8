/-! PURE 50: the reference's objects as numbers: fields φ, rows ρ by their places -/
theorem heap_ext {h h' : AH} (h2 : h.2 = h'.2) (hh : ∀ p, hget h p = hget h' p) : h = h' := Prod.ext (List.ext_getElem? hh) h2
def mF (φ : Nat → Int32) : List AV := [aI (φ 0), aD 52, aI (φ 2), aD 53, aD 54, aI (φ 5), aD 55, aI (φ 7), aI (φ 8), aI (φ 9), aI (φ 10), aD 56, aI (φ 12), aD 57, aD 58, aD 59, aI (φ 16), aD 60, aD 61, aD 62, aI (φ 20), aI (φ 21), aI (φ 22), aD 63, aD 64, aI (φ 25), aD 65, aI (φ 27), aD 66, aD 67, aI (φ 30), aD 68, aI (φ 32), aD 69, aD 70]
def RN (q : Nat) : Nat := ([120, 301, 2408, 120, 244, 62, 62, 1200, 24, 24, 2000, 24, 2000, 24, 16, 2000, 120, 301, 24] : List Nat).getD (q - 52) 0
def RT (q : Nat) : Nat := ([0, 0, 0, 1, 0, 3, 0, 1, 0, 0, 0, 0, 0, 0, 0, 0, 0, 0, 0] : List Nat).getD (q - 52) 0
def rob (φ : Nat → Int32) (ρ : Nat → Nat → Int32) (p : Nat) : Option AO := if p = 51 then some (oO 12 (mF φ)) else if 52 ≤ p ∧ p ≤ 70 then some (oI (RT p) (RN p) (ρ p)) else none
def rh (h : AH) (φ : Nat → Int32) (ρ : Nat → Nat → Int32) : AH := ((List.range (max 71 h.1.length)).map (fun p => (rob φ ρ p).getD (h.1.getD p (oO 0 []))), h.2)
def upr (ρ : Nat → Nat → Int32) (q : Nat) (f : Nat → Int32) : Nat → Nat → Int32 := fun p => if p = q then f else ρ p
theorem upr_eq (ρ : Nat → Nat → Int32) (q : Nat) (f : Nat → Int32) (p : Nat) : upr ρ q f p = if p = q then f else ρ p := rfl
theorem upr_upr (ρ : Nat → Nat → Int32) (q : Nat) (f f' : Nat → Int32) : upr (upr ρ q f) q f' = upr ρ q f' := by
  funext p
  simp only [upr_eq]
  split <;> rfl
theorem upr_self (ρ : Nat → Nat → Int32) (q : Nat) : upr ρ q (ρ q) = ρ := by
  funext p
  rw [upr_eq]
  split
  · rename_i hh
    rw [hh]
  · rfl
theorem upd_upd (f : Nat → Int32) (a : Nat) (x y : Int32) : upd (upd f a x) a y = upd f a y := by
  funext j
  simp only [upd_eq]
  split <;> rfl
section
variable {sc : SC} {h h' : AH} {φ φ' : Nat → Int32} {ρ ρ' : Nat → Nat → Int32} {p q n k j : Nat} {g f l s : Nat → Int32} {x : Int32} {v : AV} {T : Nat → Bool} {S : Nat → Prop}
theorem rh_get (p : Nat) : hget (rh h φ ρ) p = if p < max 71 h.1.length then some ((rob φ ρ p).getD (h.1.getD p (oO 0 []))) else none := by
  unfold hget rh
  show ((List.range (max 71 h.1.length)).map _)[p]? = _
  rw [List.getElem?_map]
  by_cases hp : p < max 71 h.1.length
  · rw [List.getElem?_range hp, if_pos hp]
    rfl
  · rw [if_neg hp, List.getElem?_eq_none (by rw [List.length_range]; omega)]
    rfl
theorem rh_52 : hget (rh h φ ρ) 51 = some (oO 12 (mF φ)) := by
  rw [rh_get, if_pos (by omega)]
  rfl
theorem rh_row (hq : 52 ≤ q ∧ q ≤ 70) : hget (rh h φ ρ) q = some (oI (RT q) (RN q) (ρ q)) := by
  rw [rh_get, if_pos (by omega)]
  unfold rob
  rw [if_neg (by omega), if_pos hq]
  rfl
theorem rob_out (hq : q < 51 ∨ 70 < q) : rob φ ρ q = none := by
  unfold rob
  rw [if_neg (by omega), if_neg (by omega)]
theorem rh_out (hq : q < 51 ∨ 70 < q) (hl : 71 ≤ h.1.length) : hget (rh h φ ρ) q = hget h q := by
  rw [rh_get, rob_out hq]
  by_cases hp : q < max 71 h.1.length
  · rw [if_pos hp]
    show some (h.1.getD q (oO 0 [])) = h.1[q]?
    rw [List.getD_eq_getElem?_getD, List.getElem?_eq_getElem (show q < h.1.length by omega)]
    rfl
  · rw [if_neg hp]
    exact (List.getElem?_eq_none (by omega)).symm
theorem rh_set52 : hset (rh h φ ρ) 51 (oO 12 (mF φ')) = rh h φ' ρ := by
  refine heap_ext rfl (fun p => ?_)
  by_cases hp : p = 51
  · subst hp
    rw [hget_set rh_52, rh_52]
  · rw [hget_ne hp, rh_get, rh_get]
    unfold rob
    rw [if_neg hp, if_neg hp]
theorem rh_setq (hq : 52 ≤ q ∧ q ≤ 70) : hset (rh h φ ρ) q (oI (RT q) (RN q) f) = rh h φ (upr ρ q f) := by
  refine heap_ext rfl (fun p => ?_)
  by_cases hp : p = q
  · subst hp
    rw [hget_set (rh_row hq), rh_row hq, upr_eq, if_pos rfl]
  · rw [hget_ne hp, rh_get, rh_get]
    unfold rob
    rw [upr_eq, if_neg hp]
/-- a heap that has the reference's objects so -/
def RH (h : AH) (φ : Nat → Int32) (ρ : Nat → Nat → Int32) : Prop := 71 ≤ h.1.length ∧ hget h 51 = some (oO 12 (mF φ)) ∧ ∀ q, 52 ≤ q → q ≤ 70 → hget h q = some (oI (RT q) (RN q) (ρ q))
theorem RH.eq (g : RH h φ ρ) : rh h φ ρ = h := by
  refine heap_ext rfl (fun p => ?_)
  by_cases hp : p < 51 ∨ 70 < p
  · exact rh_out hp g.1
  · by_cases h2 : p = 51
    · subst h2
      rw [rh_52, g.2.1]
    · rw [rh_row (by omega), g.2.2 p (by omega) (by omega)]
theorem rh_len (hl : 71 ≤ h.1.length) : (rh h φ ρ).1.length = h.1.length := by
  show ((List.range (max 71 h.1.length)).map _).length = _
  rw [List.length_map, List.length_range]
  omega
theorem RH.of (hl : 71 ≤ h.1.length) : RH (rh h φ ρ) φ ρ := ⟨by rw [rh_len hl]; exact hl, rh_52, fun q h1 h2 => rh_row ⟨h1, h2⟩⟩
def SRH : Nat → Prop := fun p => 51 ≤ p ∧ p ≤ 70
theorem RH.fr (g : RH h φ ρ) : Fr SRH h (rh h φ' ρ') := by
  refine ⟨rfl, rh_len g.1, fun p hp => rh_out (by unfold SRH at hp; omega) g.1, ?_⟩
  unfold costS
  show ((rh h φ' ρ').1.map osize).sum + 6 * h.2 = _
  congr 2
  refine List.ext_getElem? (fun p => ?_)
  rw [List.getElem?_map, List.getElem?_map]
  show (hget (rh h φ' ρ') p).map osize = (hget h p).map osize
  by_cases hp : p < 51 ∨ 70 < p
  · rw [rh_out hp g.1]
  · by_cases h2 : p = 51
    · subst h2
      rw [rh_52, g.2.1]
      rfl
    · rw [rh_row (by omega), g.2.2 p (by omega) (by omega)]
      rfl
theorem rF (hk : (mF φ)[k]? = some v) : getF sc (rh h φ ρ) (aD 51) 12 k = some v := getF_D rh_52 hk
theorem rOK_r : rOK sc (rh h φ ρ) (aD 51) 12 = true := rOK_D rh_52
theorem bI_r (r : Option Res) : bI (rOK sc (rh h φ ρ) (aD 51) 12 = true) r = r := bI_t rOK_r r
theorem rl (hq : 52 ≤ q ∧ q ≤ 70) (hT : T (RT q) = true) (hj : j < RN q) (hN : RN q < 2 ^ 31) : ldI sc (rh h φ ρ) T (aD q) (nI j) = some (ρ q j) := ldI_D (rh_row hq) hT hj hN
theorem rsq (hq : 52 ≤ q ∧ q ≤ 70) (hT : T (RT q) = true) (hj : j < RN q) (hN : RN q < 2 ^ 31) : stI (rh h φ ρ) T q (nI j) x = some (rh h φ (upr ρ q (upd (ρ q) j (narK (RT q) x)))) := by
  rw [stI_D (rh_row hq) hT hj hN, rh_setq hq]
theorem rp (hk : k < 35) (ht : fitK n v = true) (hs : (mF φ).set k v = mF φ') : putF (rh h φ ρ) 51 12 k n v = some (rh h φ' ρ) := by
  rw [putF_D rh_52 (show k < (mF φ).length from hk) ht, hs, rh_set52]
theorem rf_0 : getF sc (rh h φ ρ) (aD 51) 12 0 = some (aI (φ 0)) := rF rfl
theorem rp_0 : putF (rh h φ ρ) 51 12 0 0 (aI x) = some (rh h (upd φ 0 x) ρ) := rp (by omega) rfl rfl
theorem rf_1 : getF sc (rh h φ ρ) (aD 51) 12 1 = some (aD 52) := rF rfl
theorem rf_2 : getF sc (rh h φ ρ) (aD 51) 12 2 = some (aI (φ 2)) := rF rfl
theorem rp_2 : putF (rh h φ ρ) 51 12 2 0 (aI x) = some (rh h (upd φ 2 x) ρ) := rp (by omega) rfl rfl
theorem rf_3 : getF sc (rh h φ ρ) (aD 51) 12 3 = some (aD 53) := rF rfl
theorem rf_4 : getF sc (rh h φ ρ) (aD 51) 12 4 = some (aD 54) := rF rfl
theorem rf_5 : getF sc (rh h φ ρ) (aD 51) 12 5 = some (aI (φ 5)) := rF rfl
theorem rp_5 : putF (rh h φ ρ) 51 12 5 0 (aI x) = some (rh h (upd φ 5 x) ρ) := rp (by omega) rfl rfl
theorem rf_6 : getF sc (rh h φ ρ) (aD 51) 12 6 = some (aD 55) := rF rfl
theorem rf_7 : getF sc (rh h φ ρ) (aD 51) 12 7 = some (aI (φ 7)) := rF rfl
theorem rp_7 : putF (rh h φ ρ) 51 12 7 0 (aI x) = some (rh h (upd φ 7 x) ρ) := rp (by omega) rfl rfl
theorem rf_8 : getF sc (rh h φ ρ) (aD 51) 12 8 = some (aI (φ 8)) := rF rfl
theorem rp_8 : putF (rh h φ ρ) 51 12 8 0 (aI x) = some (rh h (upd φ 8 x) ρ) := rp (by omega) rfl rfl
theorem rf_9 : getF sc (rh h φ ρ) (aD 51) 12 9 = some (aI (φ 9)) := rF rfl
theorem rp_9 : putF (rh h φ ρ) 51 12 9 0 (aI x) = some (rh h (upd φ 9 x) ρ) := rp (by omega) rfl rfl
theorem rf_10 : getF sc (rh h φ ρ) (aD 51) 12 10 = some (aI (φ 10)) := rF rfl
theorem rp_10 : putF (rh h φ ρ) 51 12 10 0 (aI x) = some (rh h (upd φ 10 x) ρ) := rp (by omega) rfl rfl
theorem rf_11 : getF sc (rh h φ ρ) (aD 51) 12 11 = some (aD 56) := rF rfl
theorem rf_12 : getF sc (rh h φ ρ) (aD 51) 12 12 = some (aI (φ 12)) := rF rfl
theorem rp_12 : putF (rh h φ ρ) 51 12 12 0 (aI x) = some (rh h (upd φ 12 x) ρ) := rp (by omega) rfl rfl
theorem rf_13 : getF sc (rh h φ ρ) (aD 51) 12 13 = some (aD 57) := rF rfl
theorem rf_14 : getF sc (rh h φ ρ) (aD 51) 12 14 = some (aD 58) := rF rfl
theorem rf_15 : getF sc (rh h φ ρ) (aD 51) 12 15 = some (aD 59) := rF rfl
theorem rf_16 : getF sc (rh h φ ρ) (aD 51) 12 16 = some (aI (φ 16)) := rF rfl
theorem rp_16 : putF (rh h φ ρ) 51 12 16 0 (aI x) = some (rh h (upd φ 16 x) ρ) := rp (by omega) rfl rfl
theorem rf_17 : getF sc (rh h φ ρ) (aD 51) 12 17 = some (aD 60) := rF rfl
theorem rf_18 : getF sc (rh h φ ρ) (aD 51) 12 18 = some (aD 61) := rF rfl
theorem rf_19 : getF sc (rh h φ ρ) (aD 51) 12 19 = some (aD 62) := rF rfl
theorem rf_20 : getF sc (rh h φ ρ) (aD 51) 12 20 = some (aI (φ 20)) := rF rfl
theorem rp_20 : putF (rh h φ ρ) 51 12 20 0 (aI x) = some (rh h (upd φ 20 x) ρ) := rp (by omega) rfl rfl
theorem rf_21 : getF sc (rh h φ ρ) (aD 51) 12 21 = some (aI (φ 21)) := rF rfl
theorem rp_21 : putF (rh h φ ρ) 51 12 21 0 (aI x) = some (rh h (upd φ 21 x) ρ) := rp (by omega) rfl rfl
theorem rf_22 : getF sc (rh h φ ρ) (aD 51) 12 22 = some (aI (φ 22)) := rF rfl
theorem rp_22 (b : Bool) : putF (rh h φ ρ) 51 12 22 1 (aI (zI b)) = some (rh h (upd φ 22 (zI b)) ρ) := rp (by omega) (by cases b <;> rfl) rfl
theorem rf_23 : getF sc (rh h φ ρ) (aD 51) 12 23 = some (aD 63) := rF rfl
theorem rf_24 : getF sc (rh h φ ρ) (aD 51) 12 24 = some (aD 64) := rF rfl
theorem rf_25 : getF sc (rh h φ ρ) (aD 51) 12 25 = some (aI (φ 25)) := rF rfl
theorem rp_25 : putF (rh h φ ρ) 51 12 25 0 (aI x) = some (rh h (upd φ 25 x) ρ) := rp (by omega) rfl rfl
theorem rf_26 : getF sc (rh h φ ρ) (aD 51) 12 26 = some (aD 65) := rF rfl
theorem rf_27 : getF sc (rh h φ ρ) (aD 51) 12 27 = some (aI (φ 27)) := rF rfl
theorem rp_27 : putF (rh h φ ρ) 51 12 27 0 (aI x) = some (rh h (upd φ 27 x) ρ) := rp (by omega) rfl rfl
theorem rf_28 : getF sc (rh h φ ρ) (aD 51) 12 28 = some (aD 66) := rF rfl
theorem rf_29 : getF sc (rh h φ ρ) (aD 51) 12 29 = some (aD 67) := rF rfl
theorem rf_30 : getF sc (rh h φ ρ) (aD 51) 12 30 = some (aI (φ 30)) := rF rfl
theorem rp_30 (b : Bool) : putF (rh h φ ρ) 51 12 30 1 (aI (zI b)) = some (rh h (upd φ 30 (zI b)) ρ) := rp (by omega) (by cases b <;> rfl) rfl
theorem rf_31 : getF sc (rh h φ ρ) (aD 51) 12 31 = some (aD 68) := rF rfl
theorem rf_32 : getF sc (rh h φ ρ) (aD 51) 12 32 = some (aI (φ 32)) := rF rfl
theorem rp_32 : putF (rh h φ ρ) 51 12 32 0 (aI x) = some (rh h (upd φ 32 x) ρ) := rp (by omega) rfl rfl
theorem rf_33 : getF sc (rh h φ ρ) (aD 51) 12 33 = some (aD 69) := rF rfl
theorem rf_34 : getF sc (rh h φ ρ) (aD 51) 12 34 = some (aD 70) := rF rfl
theorem rl_53 (hj : j < 120) : ldI sc (rh h φ ρ) (fun t => t == 0) (aD 52) (nI j) = some (ρ 52 j) := rl (by omega) rfl hj (show 120 < 2 ^ 31 by omega)
theorem rs_53 (hj : j < 120) : stI (rh h φ ρ) (fun t => t == 0) 52 (nI j) x = some (rh h φ (upr ρ 52 (upd (ρ 52) j x))) := rsq (by omega) rfl hj (show 120 < 2 ^ 31 by omega)
theorem rl_54 (hj : j < 301) : ldI sc (rh h φ ρ) (fun t => t == 0) (aD 53) (nI j) = some (ρ 53 j) := rl (by omega) rfl hj (show 301 < 2 ^ 31 by omega)
theorem rs_54 (hj : j < 301) : stI (rh h φ ρ) (fun t => t == 0) 53 (nI j) x = some (rh h φ (upr ρ 53 (upd (ρ 53) j x))) := rsq (by omega) rfl hj (show 301 < 2 ^ 31 by omega)
theorem rl_55 (hj : j < 2408) : ldI sc (rh h φ ρ) (fun t => t == 0) (aD 54) (nI j) = some (ρ 54 j) := rl (by omega) rfl hj (show 2408 < 2 ^ 31 by omega)
theorem rs_55 (hj : j < 2408) : stI (rh h φ ρ) (fun t => t == 0) 54 (nI j) x = some (rh h φ (upr ρ 54 (upd (ρ 54) j x))) := rsq (by omega) rfl hj (show 2408 < 2 ^ 31 by omega)
theorem rl_56 (hj : j < 120) : ldI sc (rh h φ ρ) (fun t => t == 1) (aD 55) (nI j) = some (ρ 55 j) := rl (by omega) rfl hj (show 120 < 2 ^ 31 by omega)
theorem rs_56 (hj : j < 120) : stI (rh h φ ρ) (fun t => t == 1) 55 (nI j) x = some (rh h φ (upr ρ 55 (upd (ρ 55) j (narK 1 x)))) := rsq (by omega) rfl hj (show 120 < 2 ^ 31 by omega)
theorem rl_57 (hj : j < 244) : ldI sc (rh h φ ρ) (fun t => t == 0) (aD 56) (nI j) = some (ρ 56 j) := rl (by omega) rfl hj (show 244 < 2 ^ 31 by omega)
theorem rs_57 (hj : j < 244) : stI (rh h φ ρ) (fun t => t == 0) 56 (nI j) x = some (rh h φ (upr ρ 56 (upd (ρ 56) j x))) := rsq (by omega) rfl hj (show 244 < 2 ^ 31 by omega)
theorem rl_58 (hj : j < 62) : ldI sc (rh h φ ρ) (fun t => t == 2 || t == 3) (aD 57) (nI j) = some (ρ 57 j) := rl (by omega) rfl hj (show 62 < 2 ^ 31 by omega)
theorem rs_58 (hj : j < 62) : stI (rh h φ ρ) (fun t => t == 2 || t == 3) 57 (nI j) x = some (rh h φ (upr ρ 57 (upd (ρ 57) j (narK 3 x)))) := rsq (by omega) rfl hj (show 62 < 2 ^ 31 by omega)
theorem rl_59 (hj : j < 62) : ldI sc (rh h φ ρ) (fun t => t == 0) (aD 58) (nI j) = some (ρ 58 j) := rl (by omega) rfl hj (show 62 < 2 ^ 31 by omega)
theorem rs_59 (hj : j < 62) : stI (rh h φ ρ) (fun t => t == 0) 58 (nI j) x = some (rh h φ (upr ρ 58 (upd (ρ 58) j x))) := rsq (by omega) rfl hj (show 62 < 2 ^ 31 by omega)
theorem rl_60 (hj : j < 1200) : ldI sc (rh h φ ρ) (fun t => t == 1) (aD 59) (nI j) = some (ρ 59 j) := rl (by omega) rfl hj (show 1200 < 2 ^ 31 by omega)
theorem rs_60 (hj : j < 1200) : stI (rh h φ ρ) (fun t => t == 1) 59 (nI j) x = some (rh h φ (upr ρ 59 (upd (ρ 59) j (narK 1 x)))) := rsq (by omega) rfl hj (show 1200 < 2 ^ 31 by omega)
theorem rl_61 (hj : j < 24) : ldI sc (rh h φ ρ) (fun t => t == 0) (aD 60) (nI j) = some (ρ 60 j) := rl (by omega) rfl hj (show 24 < 2 ^ 31 by omega)
theorem rs_61 (hj : j < 24) : stI (rh h φ ρ) (fun t => t == 0) 60 (nI j) x = some (rh h φ (upr ρ 60 (upd (ρ 60) j x))) := rsq (by omega) rfl hj (show 24 < 2 ^ 31 by omega)
theorem rl_62 (hj : j < 24) : ldI sc (rh h φ ρ) (fun t => t == 0) (aD 61) (nI j) = some (ρ 61 j) := rl (by omega) rfl hj (show 24 < 2 ^ 31 by omega)
theorem rs_62 (hj : j < 24) : stI (rh h φ ρ) (fun t => t == 0) 61 (nI j) x = some (rh h φ (upr ρ 61 (upd (ρ 61) j x))) := rsq (by omega) rfl hj (show 24 < 2 ^ 31 by omega)
theorem rl_63 (hj : j < 2000) : ldI sc (rh h φ ρ) (fun t => t == 0) (aD 62) (nI j) = some (ρ 62 j) := rl (by omega) rfl hj (show 2000 < 2 ^ 31 by omega)
theorem rs_63 (hj : j < 2000) : stI (rh h φ ρ) (fun t => t == 0) 62 (nI j) x = some (rh h φ (upr ρ 62 (upd (ρ 62) j x))) := rsq (by omega) rfl hj (show 2000 < 2 ^ 31 by omega)
theorem rl_64 (hj : j < 24) : ldI sc (rh h φ ρ) (fun t => t == 0) (aD 63) (nI j) = some (ρ 63 j) := rl (by omega) rfl hj (show 24 < 2 ^ 31 by omega)
theorem rs_64 (hj : j < 24) : stI (rh h φ ρ) (fun t => t == 0) 63 (nI j) x = some (rh h φ (upr ρ 63 (upd (ρ 63) j x))) := rsq (by omega) rfl hj (show 24 < 2 ^ 31 by omega)
theorem rl_65 (hj : j < 2000) : ldI sc (rh h φ ρ) (fun t => t == 0) (aD 64) (nI j) = some (ρ 64 j) := rl (by omega) rfl hj (show 2000 < 2 ^ 31 by omega)
theorem rs_65 (hj : j < 2000) : stI (rh h φ ρ) (fun t => t == 0) 64 (nI j) x = some (rh h φ (upr ρ 64 (upd (ρ 64) j x))) := rsq (by omega) rfl hj (show 2000 < 2 ^ 31 by omega)
theorem rl_66 (hj : j < 24) : ldI sc (rh h φ ρ) (fun t => t == 0) (aD 65) (nI j) = some (ρ 65 j) := rl (by omega) rfl hj (show 24 < 2 ^ 31 by omega)
theorem rs_66 (hj : j < 24) : stI (rh h φ ρ) (fun t => t == 0) 65 (nI j) x = some (rh h φ (upr ρ 65 (upd (ρ 65) j x))) := rsq (by omega) rfl hj (show 24 < 2 ^ 31 by omega)
theorem rl_67 (hj : j < 16) : ldI sc (rh h φ ρ) (fun t => t == 0) (aD 66) (nI j) = some (ρ 66 j) := rl (by omega) rfl hj (show 16 < 2 ^ 31 by omega)
theorem rs_67 (hj : j < 16) : stI (rh h φ ρ) (fun t => t == 0) 66 (nI j) x = some (rh h φ (upr ρ 66 (upd (ρ 66) j x))) := rsq (by omega) rfl hj (show 16 < 2 ^ 31 by omega)
theorem rl_68 (hj : j < 2000) : ldI sc (rh h φ ρ) (fun t => t == 0) (aD 67) (nI j) = some (ρ 67 j) := rl (by omega) rfl hj (show 2000 < 2 ^ 31 by omega)
theorem rs_68 (hj : j < 2000) : stI (rh h φ ρ) (fun t => t == 0) 67 (nI j) x = some (rh h φ (upr ρ 67 (upd (ρ 67) j x))) := rsq (by omega) rfl hj (show 2000 < 2 ^ 31 by omega)
theorem rl_69 (hj : j < 120) : ldI sc (rh h φ ρ) (fun t => t == 0) (aD 68) (nI j) = some (ρ 68 j) := rl (by omega) rfl hj (show 120 < 2 ^ 31 by omega)
theorem rs_69 (hj : j < 120) : stI (rh h φ ρ) (fun t => t == 0) 68 (nI j) x = some (rh h φ (upr ρ 68 (upd (ρ 68) j x))) := rsq (by omega) rfl hj (show 120 < 2 ^ 31 by omega)
theorem rl_70 (hj : j < 301) : ldI sc (rh h φ ρ) (fun t => t == 0) (aD 69) (nI j) = some (ρ 69 j) := rl (by omega) rfl hj (show 301 < 2 ^ 31 by omega)
theorem rs_70 (hj : j < 301) : stI (rh h φ ρ) (fun t => t == 0) 69 (nI j) x = some (rh h φ (upr ρ 69 (upd (ρ 69) j x))) := rsq (by omega) rfl hj (show 301 < 2 ^ 31 by omega)
theorem rl_71 (hj : j < 24) : ldI sc (rh h φ ρ) (fun t => t == 0) (aD 70) (nI j) = some (ρ 70 j) := rl (by omega) rfl hj (show 24 < 2 ^ 31 by omega)
theorem rs_71 (hj : j < 24) : stI (rh h φ ρ) (fun t => t == 0) 70 (nI j) x = some (rh h φ (upr ρ 70 (upd (ρ 70) j x))) := rsq (by omega) rfl hj (show 24 < 2 ^ 31 by omega)
theorem FO_r (h0 : ρ 53 0 = nI n) (hn : n ≤ 60) : FO (rh h φ ρ) 51 (mF φ) 53 n (ρ 53) := ⟨rh_52, rfl, rh_row (by omega), h0, hn⟩
theorem LO_r : LO (rh h φ ρ) 51 (mF φ) 58 (ρ 58) := ⟨rh_52, rfl, rh_row (by omega)⟩
theorem MO_r : MO (rh h φ ρ) 51 (mF φ) 57 (ρ 57) := ⟨rh_52, rfl, rh_row (by omega)⟩
theorem gset_r : gset (rh h φ ρ) 53 g = rh h φ (upr ρ 53 g) := rh_setq (q := 53) (by omega)
theorem lset_r : lset (rh h φ ρ) 58 l = rh h φ (upr ρ 58 l) := rh_setq (q := 58) (by omega)
theorem bset_r : bset (rh h φ ρ) 57 s = rh h φ (upr ρ 57 s) := rh_setq (q := 57) (by omega)
theorem fail_r : Call sc n_X10_fail [aD 51, aI x] (rh h φ ρ) = some (.inl (some (aI (nI 0))), rh h (upd φ 0 x) ρ) := by
  rw [c_X10_fail rh_52 (by exact Nat.succ_pos 34)]
  show some (_, hset (rh h φ ρ) 51 (oO 12 (mF (upd φ 0 x)))) = _
  rw [rh_set52]
theorem thrown_r : Call sc n_X10_thrown [aD 51] (rh h φ ρ) = some (.inl (some (aI (φ 0))), rh h φ ρ) := c_X10_thrown rh_52 rfl
/-- a heap that differs from rh in the form and the lives alone -/
theorem rh_back (hf : Fr (fun y => y = 53 ∨ y = 58) (rh h φ ρ) h') (h1 : hget h' 53 = some (oI 0 301 g)) (h2 : hget h' 58 = some (oI 0 62 l)) : h' = rh h φ (upr (upr ρ 53 g) 58 l) := by
  refine heap_ext hf.1 (fun p => ?_)
  by_cases hp : p = 58
  · subst hp
    rw [h2, rh_row (by omega), upr_eq, if_pos rfl]
    rfl
  · by_cases hp2 : p = 53
    · subst hp2
      rw [h1, rh_row (by omega), upr_eq, if_neg (by omega), upr_eq, if_pos rfl]
      rfl
    · rw [hf.2.2.1 p (by omega), rh_get, rh_get]
      unfold rob
      rw [upr_eq, if_neg hp, upr_eq, if_neg hp2]
end
