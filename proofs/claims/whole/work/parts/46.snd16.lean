/-! SOUNDNESS 16: what the start of the law gives: the launch's constants -/
def KNl : List String := ["NOP", "SET", "COPY", "ADD", "SUB", "LOAD", "STORE", "OUT", "EQUAL", "LESS", "JUMP", "HALT"]
def KSl : List (String × Nat) := [("BranchSlotFiller$Kind", 92), ("BranchSlotFiller$Kind", 94), ("BranchSlotFiller$Kind", 100), ("BranchSlotFiller$Kind", 102), ("BranchSlotFiller$Kind", 105), ("BranchSlotFiller$Kind", 107), ("BranchSlotFiller$Kind", 110), ("BranchSlotFiller$Kind", 112), ("BranchSlotFiller$Kind", 115), ("BranchSlotFiller$Kind", 118), ("BranchSlotFiller$Kind", 120), ("BranchSlotFiller$Kind", 123), ("BranchSlotFiller$Kind", 125), ("BranchSlotFiller$Kind", 128), ("BranchSlotFiller$Kind", 130), ("BranchSlotFiller$Kind", 133), ("BranchSlotFiller$Kind", 135), ("BranchSlotFiller$Kind", 138), ("BranchSlotFiller$Kind", 141), ("BranchSlotFiller$Kind", 143), ("BranchSlotFiller$Kind", 146)]
/-- the term of a constant -/
def KT (k : Nat) : Term :=
  if k = 0 then .arg 0
  else if k ≤ 12 then .static "BranchSlotFiller$Kind" (KNl.getD (k - 1) "") "LBranchSlotFiller$Kind;"
  else if k = 13 then .static "BranchSlotFiller" "KINDS" "[LBranchSlotFiller$Kind;"
  else if k = 14 then .static "BranchSlotFiller$1" "$SwitchMap$BranchSlotFiller$Kind" "[I"
  else if (k - 15) % 2 = 0 then .string (KSl.getD ((k - 15) / 2) ("", 0)).1 (KSl.getD ((k - 15) / 2) ("", 0)).2
  else .field (.string (KSl.getD ((k - 15) / 2) ("", 0)).1 (KSl.getD ((k - 15) / 2) ("", 0)).2) "java/lang/String" "value" "[B"
/-- the places of the premises in the tree of the start's conditions (by program: wip/whole/gen46.py) -/
def OPl : List (List Nat) := [[3777, 3521, 3009, 4033, 1057, 2593, 3617, 2337, 3361, 2497], [3953, 3313, 2801, 3825, 2545, 3569, 3057, 4081, 1033, 2289], [2185, 2697, 3721, 2441, 3465, 2953, 3977, 2121, 3145, 3209], [3273, 3785, 2505, 3529, 3017, 4041, 2089, 3113, 2601, 2761], [3753, 3497, 2985, 4009, 2153, 3177, 2665, 3689, 2409, 2473], [3169, 3681, 2401, 3425, 2913, 3937, 2273, 3297, 2785, 2657], [3553, 4065, 1041, 2577, 3601, 2321, 3345, 2833, 3857, 3041], [3729, 3473, 2961, 3985, 2129, 3153, 2641, 3665, 2385, 2449], [3281, 3793, 2513, 3537, 3025, 4049, 2097, 3121, 2609, 2769], [3049, 1049, 2585, 3609, 2329, 3353, 2841, 3865, 2201, 4073], [3673, 3417, 2905, 3929, 2265, 3289, 2777, 3801, 2521, 2393], [2849, 2209, 3233, 2721, 3745, 2465, 3489, 2977, 4001, 3873], [3329, 2817, 2177, 3201, 2689, 3713, 2433, 3457, 2945, 3969, 2113, 3137, 2625, 3649], [3249, 2737, 3761, 2481, 3505, 2993, 4017, 2161, 3185, 2673, 3697, 2417, 3441, 2929], [3127, 2615], [3639, 2359, 3383, 2871, 3895], [2231, 3255], [2743, 3767, 2487, 3511, 2999], [3439, 2927], [3951, 2287, 3311, 2799, 3823], [2543, 3567], [3055, 4079, 1055, 2591, 3615], [2335, 3359], [2847, 3871, 2207, 3231, 2719, 3743], [2463, 3487], [2975, 3999, 2143, 3167, 2655], [3679, 2399], [3423, 2911, 3935, 2271, 3295], [2783, 3807], [2527, 3551, 3039, 4063, 2111], [3135, 2623], [3647, 2367, 3391, 2879, 3903], [3959, 2295], [3319, 2807, 3831, 2551, 3575, 3063], [4087, 1039], [2575, 3599, 2319, 3343, 2831], [3855, 2191], [3215, 2703, 3727, 2447, 3471, 2959, 3983], [2127, 3151], [2639, 3663, 2383, 3407, 2895], [3919, 2255], [3279, 2767, 3791, 2511, 3535], [3023, 4047], [2095, 3119, 2607, 3631, 2351], [3375, 2863], [3887, 2223, 3247, 2735, 3759, 2479, 3503], [2991, 4015], [2159, 3183, 2671, 3695, 2415], [2239, 3263], [2751, 3775, 2495, 3519, 3007, 4031], [2175, 3199], [2687, 3711, 2431, 3455, 2943, 3967], [2303, 3327], [2815, 3839, 2559, 3583, 3071], [4023, 2167], [3191, 2679, 3703, 2423, 3447, 2935]]
def DPl : List (List Nat) := [[0, 2569, 2633, 3625, 3433, 3809, 2193, 3409, 3633, 3225, 3545, 2145], [2569, 0, 2249, 3241, 3817, 2313, 3337, 2825, 3849, 3993, 3641, 3593], [2633, 2249, 0, 2729, 2537, 2377, 3401, 2889, 3913, 2137, 2361, 3657], [3625, 3241, 2729, 0, 3561, 3369, 2857, 3881, 2217, 3161, 3385, 2345], [3433, 3817, 2537, 3561, 0, 3945, 2281, 3305, 2793, 2649, 2873, 2921], [3809, 2313, 2377, 3369, 3945, 0, 2705, 3921, 3377, 3737, 4057, 2529], [2193, 3337, 3401, 2857, 2281, 2705, 0, 2257, 2865, 2457, 2105, 3217], [3409, 2825, 2889, 3881, 3305, 3921, 2257, 0, 3889, 3481, 3129, 2897], [3633, 3849, 3913, 2217, 2793, 3377, 2865, 3889, 0, 2969, 2617, 2353], [3225, 3993, 2137, 3161, 2649, 3737, 2457, 3481, 2969, 0, 3897, 2713], [3545, 3641, 2361, 3385, 2873, 4057, 2105, 3129, 2617, 3897, 0, 3033], [2145, 3593, 3657, 2345, 2921, 2529, 3217, 2897, 2353, 2713, 3033, 0]]
def NPl : List (List Nat) := [[0, 2565, 2629, 3605, 2661, 2597], [2681, 0, 2373, 3349, 2405, 2341], [2425, 3333, 0, 3861, 2917, 2853], [3961, 2181, 3909, 0, 2277, 2213], [2937, 3845, 2885, 3221, 0, 3877], [3449, 2821, 3397, 2197, 3941, 0]]
def SRl : List (String × Nat × Nat) := [("BranchSlotFiller", 95, 2709), ("BranchSlotFiller", 119, 2101), ("BranchSlotFiller", 125, 3061), ("BranchSlotFiller", 136, 2253), ("BranchSlotFiller", 139, 4013), ("BranchSlotFiller", 151, 4077), ("BranchSlotFiller", 176, 3165), ("BranchSlotFiller", 178, 2621), ("BranchSlotFiller", 190, 3325), ("BranchSlotFiller", 195, 3203), ("BranchSlotFiller", 202, 2659), ("BranchSlotFiller", 212, 3603), ("BranchSlotFiller", 220, 2515), ("BranchSlotFiller", 230, 3827), ("BranchSlotFiller", 240, 3147), ("BranchSlotFiller", 242, 3499), ("BranchSlotFiller", 250, 3739), ("BranchSlotFiller", 289, 2363), ("BranchSlotFiller", 269, 3579), ("BranchSlotFiller", 291, 2119), ("BranchSlotFiller", 286, 2535), ("BranchSlotFiller", 306, 2455), ("BranchSlotFiller$Kind", 92, 3127), ("BranchSlotFiller$Kind", 94, 2231), ("BranchSlotFiller$Kind", 146, 4023), ("BranchSlotFiller$Kind", 118, 3959), ("BranchSlotFiller$Kind", 120, 4087), ("BranchSlotFiller$Kind", 123, 3855), ("BranchSlotFiller$Kind", 125, 2127), ("BranchSlotFiller$Kind", 128, 3919), ("BranchSlotFiller$Kind", 130, 3023), ("BranchSlotFiller$Kind", 133, 3375), ("BranchSlotFiller$Kind", 135, 2991), ("BranchSlotFiller$Kind", 100, 3439), ("BranchSlotFiller$Kind", 102, 2543), ("BranchSlotFiller$Kind", 105, 2335), ("BranchSlotFiller$Kind", 107, 2463), ("BranchSlotFiller$Kind", 110, 3679), ("BranchSlotFiller$Kind", 112, 2783), ("BranchSlotFiller$Kind", 115, 3135), ("BranchSlotFiller$Kind", 138, 2239), ("BranchSlotFiller$Kind", 141, 2175), ("BranchSlotFiller$Kind", 143, 2303)]
def SPl : List Nat := [2369, 3393, 0, 0, 0, 0, 0, 0, 0, 0, 0]
def nav : Nat → Nat → Cond → Option Cond
  | 0, _, _ => none
  | n + 1, p, c => if p = 1 then some c else match c with
    | .and a b => nav n (p / 2) (if p % 2 = 0 then a else b)
    | _ => none
def TT : Cond := Jvm.Cond.and given_1 narrow_1
def cAt (p : Nat) (w : Cond) : Bool := match nav 30 p TT with
  | some c => decide (c = w)
  | none => false
theorem nav_use {av : Array Value} {s : State} {w : Cond} : ∀ (n p : Nat) (c : Cond), nav n p c = some w → c.before av s = true → w.before av s = true := by
  intro n
  induction n with
  | zero => intro p c h; simp [nav] at h
  | succ n ih =>
    intro p c h hb
    unfold nav at h
    split at h
    · cases h
      exact hb
    · split at h
      · rename_i a b
        rw [Cond.before_and, Bool.and_eq_true] at hb
        refine ih _ _ h ?_
        split
        · exact hb.1
        · exact hb.2
      · cases h
theorem cAt_use {av : Array Value} {s : State} {p : Nat} {w : Cond} (h : cAt p w = true) (hb : TT.before av s = true) : w.before av s = true := by
  unfold cAt at h
  split at h
  · rename_i c hc
    have e := of_decide_eq_true h
    subst e
    exact nav_use _ _ _ hc hb
  · cases h
def objOK (i : Nat) (o : AO) : Bool := match o with
  | .inl (c, fs) =>
    (decide (c = 100) && cAt ((OPl.getD i []).getD 0 0) (.exactly (KT (i + 1)) "BranchSlotFiller$Kind") && (List.range 9).all (fun j => match KFl[j]?, fs[j]? with
      | some q, some (.inl x) => cAt ((OPl.getD i []).getD (j + 1) 0) (.eq (.field (KT (i + 1)) q.1 q.2.1 q.2.2) (.int x))
      | some q, some (.inr (.inr (.inl k))) => cAt ((OPl.getD i []).getD (j + 1) 0) (.eq (.field (KT (i + 1)) q.1 q.2.1 q.2.2) (KT k)) && Nat.ble 1 k && Nat.ble k KOl.length
      | _, _ => false)) ||
    (decide (c = 101) && cAt ((OPl.getD i []).getD 0 0) (.exactly (KT (i + 1)) "java/lang/String") && (match fs with | [.inr (.inr (.inl k)), .inl x] => Nat.beq k (i + 2) && decide (x = 0) | _ => false) && cAt ((OPl.getD i []).getD 1 0) (.eq (.field (KT (i + 1)) "java/lang/String" "coder" "B") (.int 0)) && decide (KT (i + 2) = .field (KT (i + 1)) "java/lang/String" "value" "[B") && Nat.ble (i + 2) KOl.length)
  | .inr (.inl (t, n, f)) => Nat.blt t 4 && Nat.blt n 2147483648 && cAt ((OPl.getD i []).getD 0 0) (.arrayOf (KT (i + 1)) (tyT t)) && cAt ((OPl.getD i []).getD 1 0) (.eq (.length (KT (i + 1))) (.int (Int32.ofNat n))) && (List.range n).all (fun j => cAt ((OPl.getD i []).getD (j + 2) 0) (.eq (.elem (KT (i + 1)) (.int (Int32.ofNat j))) (.int (f j))))
  | .inr (.inr (.inr (.inr (n, f)))) => decide (i = 12) && Nat.blt n 2147483648 && cAt ((OPl.getD i []).getD 0 0) (.arrayOf (KT (i + 1)) (.object "BranchSlotFiller$Kind")) && cAt ((OPl.getD i []).getD 1 0) (.eq (.length (KT (i + 1))) (.int (Int32.ofNat n))) && (List.range n).all (fun j => match f j with
      | .inr (.inr (.inl k)) => cAt ((OPl.getD i []).getD (j + 2) 0) (.eq (.elem (KT (i + 1)) (.int (Int32.ofNat j))) (KT k)) && Nat.ble 1 k && Nat.ble k 12
      | _ => false)
  | _ => false
set_option maxRecDepth 100000 in
set_option maxHeartbeats 4000000 in
theorem objs_ok : (List.range KOl.length).all (fun i => match KOl[i]? with | some o => objOK i o | none => false) = true := by decide +kernel
set_option maxRecDepth 100000 in
set_option maxHeartbeats 4000000 in
theorem dist_ok : (List.range 12).all (fun i => (List.range 12).all (fun j => decide (i = j) || cAt ((DPl.getD i []).getD j 0) (.not (.eq (KT (i + 1)) (KT (j + 1)))) || cAt ((DPl.getD i []).getD j 0) (.not (.eq (KT (j + 1)) (KT (i + 1)))))) = true := by decide +kernel
set_option maxRecDepth 100000 in
set_option maxHeartbeats 4000000 in
theorem st_ok : (List.range SVl.length).all (fun i => match SZl[i]?, SVl[i]? with
  | some f, some v => decide (f.2.1 = "") || (lw_tbl.contains (.laysStatic f.1 f.2.1 f.2.2) && lw_tbl.contains (.initialized f.1) && (match v with
    | .inl x => cAt (SPl.getD i 0) (.eq (.static f.1 f.2.1 f.2.2) (.int x))
    | .inr (.inr (.inl k)) => decide (KT k = .static f.1 f.2.1 f.2.2) && Nat.ble 1 k && Nat.ble k KOl.length
    | .inr (.inr (.inr (.inr (.inr (.inr (.inr _)))))) => cAt (SPl.getD i 0) (.isRef (.static f.1 f.2.1 f.2.2))
    | _ => false))
  | _, _ => false) = true := by decide +kernel
set_option maxRecDepth 100000 in
set_option maxHeartbeats 4000000 in
theorem nc_ok : (List.range 6).all (fun i => (List.range 6).all (fun j => decide (i = j) || (match EXl[i]?, EXl[j]? with | some e, some e' => cAt ((NPl.getD i []).getD j 0) (.not (.castable e.1 e'.1)) | _, _ => false))) = true := by decide +kernel
set_option maxRecDepth 100000 in
set_option maxHeartbeats 4000000 in
theorem sr_ok : lw_tb2.all (fun w => match w with | .stringRef own k _ => SRl.any (fun q => Nat.beq q.2.1 k && decide (q.1 = own) && cAt q.2.2 (.exactly (.string own k) "java/lang/String")) | _ => true) = true := by decide +kernel
set_option maxRecDepth 100000 in
set_option maxHeartbeats 4000000 in
theorem tq_ok : (lw_tbl.contains (.laysStatic Bundle.tN "UNASSIGNED_STACK" Bundle.steD) && lw_tbl.contains (.laysStatic Bundle.tN "SUPPRESSED_SENTINEL" Bundle.listD) && lw_tbl.contains (.initialized Bundle.tN) && cAt 3265 (.isRef (.static Bundle.tN "UNASSIGNED_STACK" Bundle.steD)) && cAt 2753 (.isRef (.static Bundle.tN "SUPPRESSED_SENTINEL" Bundle.listD))) = true := by decide +kernel
set_option maxRecDepth 100000 in
set_option maxHeartbeats 4000000 in
theorem kn_ok : vwCl.all (fun r => (u_ws r.1 r.2.1 r.2.2).all (fun w => lw_tbl.contains w) && lw_tbl.contains (.instantiable r.1 r.2.2)) = true := by decide +kernel
theorem sx_ok2 : (true && [FieldType.int, .char, .byte, .boolean, .long, .double].all (fun t => lw_tbl.contains (.arrayClass t)) && lw_tbl.contains (.arrayOver (.object "BranchSlotFiller$Program"))) = true := by decide +kernel
theorem tb2_w {w : Cond} (h : w ∈ lw_tb2) : w ∈ lw_tbl := by
  unfold lw_tb2 at h
  rcases List.mem_append.mp h with h | h
  · exact h
  · cases h
section
variable {s : State} {b L : Nat} {xs : Nat → Int32} {A : Nat → Prop} {av : Array Value}
noncomputable def kvS (av : Array Value) (s : State) (k : Nat) : Value := match (KT k).eval av s none [] s with
  | some (.ref a) => .ref a
  | _ => .ref 0
theorem kvS_kv : KV (kvS av s) := by
  intro k
  unfold kvS
  split
  · exact ⟨_, rfl⟩
  · exact ⟨_, rfl⟩
theorem kvS_ev {k a : Nat} (h : (KT k).eval av s none [] s = some (.ref a)) : kvS av s k = .ref a := by
  unfold kvS
  rw [h]
theorem obj_at {i : Nat} {o : AO} (h : KOl[i]? = some o) : objOK i o = true := by
  have h1 := List.all_eq_true.mp objs_ok i (List.mem_range.mpr (List.getElem?_eq_some_iff.mp h).1)
  rw [h] at h1
  exact h1
theorem cF_at (hcF : TT.before av s = true) {p : Nat} {w : Cond} (h : cAt p w = true) : w.before av s = true := cAt_use h hcF
/-- a constant's place -/
theorem kref (hcF : TT.before av s = true) (hA : ∀ a : Nat, a < s.heap.size → ¬ A a) {k : Nat} (h1 : 1 ≤ k) (h2 : k ≤ KOl.length) : ∃ a, (KT k).eval av s none [] s = some (.ref a) := by
  obtain ⟨i, rfl⟩ : ∃ i, k = i + 1 := ⟨k - 1, by omega⟩
  obtain ⟨o, hoi⟩ : ∃ o, KOl[i]? = some o := ⟨_, List.getElem?_eq_getElem (show i < KOl.length by omega)⟩
  have ho := obj_at hoi
  rcases o with ⟨c, fs⟩ | ⟨t, n, f⟩ | ⟨n, f⟩ | ⟨n, f⟩ | ⟨n, f⟩
  · simp only [objOK, Bool.or_eq_true, Bool.and_eq_true] at ho
    rcases ho with ⟨⟨-, h⟩, -⟩ | ⟨⟨⟨⟨⟨-, h⟩, -⟩, -⟩, -⟩, -⟩
    · obtain ⟨a, c, cell, k, q1, -⟩ := Cond.exactly_spec (cF_at hcF h)
      exact ⟨a, q1⟩
    · obtain ⟨a, c, cell, k, q1, -⟩ := Cond.exactly_spec (cF_at hcF h)
      exact ⟨a, q1⟩
  · simp only [objOK, Bool.and_eq_true] at ho
    obtain ⟨⟨⟨⟨-, hn⟩, ha⟩, hl⟩, he⟩ := ho
    obtain ⟨t9, ht9, -⟩ := va_Tof (f := fun j => .int (f j)) (A := A) (show n < 2 ^ 31 from Nat.le_of_ble_eq_true hn) (cF_at hcF ha) (va_eqt (cF_at hcF hl)) (fun j hj => va_eqt (cF_at hcF (List.all_eq_true.mp he j (List.mem_range.mpr hj)))) hA
    exact ⟨t9, ht9⟩
  · simp [objOK] at ho
  · simp [objOK] at ho
  · simp only [objOK, Bool.and_eq_true] at ho
    obtain ⟨⟨⟨-, ha⟩, hl⟩, -⟩ := ho
    obtain ⟨t9, cell, ht9, -⟩ := Term.length_spec (va_eqt (cF_at hcF hl))
    exact ⟨t9, ht9⟩
theorem kval_ev (hcF : TT.before av s = true) (hA : ∀ a : Nat, a < s.heap.size → ¬ A a) {k : Nat} (h1 : 1 ≤ k) (h2 : k ≤ KOl.length) : (KT k).eval av s none [] s = some (kvS av s k) := by
  obtain ⟨a, ha⟩ := kref (A := A) hcF hA h1 h2
  rw [kvS_ev ha]
  exact ha
theorem kobj_lt {sc : SC} {k : Nat} {o : AO} (h : kobj sc (k + 1) = some o) : KOl[k]? = some o ∧ k < KOl.length := ⟨h, (List.getElem?_eq_some_iff.mp (show KOl[k]? = some o from h)).1⟩
theorem KOR : KOl[12]? = some (oR 12 (fun i => aC (i + 1))) := rfl
theorem KC_start (hbv : av = #[.ref b]) (hcF : TT.before av s = true) (hts : ∀ w ∈ lw_tbl, w.before av s = true) (hX : va_X b L xs s s.heap) (hbl : b < s.heap.size) (hA : ∀ a : Nat, a < s.heap.size → ¬ A a) : KC (kvS av s) (L, xs) A s s.heap := by
  have hKOlen : KOl.length = 56 := by decide
  refine ⟨kvS_kv, fun i j hi1 hi2 hj1 hj2 e => ?_, ⟨fun i f v hf hv hne => ?_, fun k c fs hk => ?_, fun k t n f hk => ?_, fun k n f hk => ?_, ?_, ?_⟩, fun w hw ho => ?_, fun own k tx hm => ?_, fun i j e e' hi hj hne => ?_⟩
  · obtain ⟨ai, hai⟩ := kref (A := A) hcF hA hi1 (by omega)
    obtain ⟨aj, haj⟩ := kref (A := A) hcF hA hj1 (by omega)
    rw [kvS_ev hai, kvS_ev haj] at e
    have e9 : ai = aj := Value.ref.inj e
    have h1 := List.all_eq_true.mp (List.all_eq_true.mp dist_ok (i - 1) (List.mem_range.mpr (by omega))) (j - 1) (List.mem_range.mpr (by omega))
    rw [show i - 1 + 1 = i by omega, show j - 1 + 1 = j by omega] at h1
    simp only [Bool.or_eq_true, decide_eq_true_eq] at h1
    rcases h1 with (h1 | h1) | h1
    · omega
    · exact absurd e9 (va_neR (cF_at hcF h1) hai haj)
    · exact absurd e9.symm (va_neR (cF_at hcF h1) haj hai)
  · have h1 := List.all_eq_true.mp st_ok i (List.mem_range.mpr (List.getElem?_eq_some_iff.mp hv).1)
    rw [hf, hv] at h1
    simp only [Bool.or_eq_true, Bool.and_eq_true, decide_eq_true_eq] at h1
    obtain ⟨⟨hl, hi⟩, h1⟩ := h1.resolve_left hne
    have hl9 := hts _ (List.contains_iff_mem.mp hl)
    have hi9 := hts _ (List.contains_iff_mem.mp hi)
    rcases v with x | p | k | u | z | z | z | u
    · exact Or.inl ⟨rfl, va_Zof hl9 hi9 (va_eqt (cF_at hcF h1)) hA⟩
    · cases h1
    · simp only [Bool.and_eq_true, decide_eq_true_eq] at h1
      obtain ⟨⟨e1, e2⟩, e3⟩ := h1
      have hev := kval_ev (A := A) hcF hA (Nat.le_of_ble_eq_true e2) (Nat.le_of_ble_eq_true e3)
      rw [e1] at hev
      exact Or.inl ⟨rfl, va_Zof hl9 hi9 hev hA⟩
    · cases h1
    · cases h1
    · cases h1
    · cases h1
    · exact Or.inr ⟨rfl, va_Zqof hl9 hi9 (cF_at hcF h1) hA⟩
  · cases k with
    | zero => cases hk
    | succ i =>
      obtain ⟨h1, h2⟩ := kobj_lt hk
      have ho := obj_at h1
      obtain ⟨a, ha⟩ := kref (A := A) hcF hA (show 1 ≤ i + 1 by omega) (by omega)
      simp only [objOK, Bool.or_eq_true, Bool.and_eq_true, decide_eq_true_eq] at ho
      rcases ho with ⟨⟨rfl, g1⟩, g2⟩ | ⟨⟨⟨⟨⟨rfl, g1⟩, g2⟩, g3⟩, g4⟩, g5⟩
      · refine ⟨Or.inl rfl, a, kvS_ev ha, va_Oof (cF_at hcF g1) ha hA, fun j f v hf hv => ?_⟩
        rw [if_pos rfl] at hf
        have hj9 : j < 9 := (List.getElem?_eq_some_iff.mp hf).1
        have h3 := List.all_eq_true.mp g2 j (List.mem_range.mpr hj9)
        rw [hf, hv] at h3
        rcases v with x | p | k | u | z | z | z | u
        · exact Or.inl ⟨vk_OFof ha (va_eqt (cF_at hcF h3)) hA, x, rfl⟩
        · cases h3
        · simp only [Bool.and_eq_true] at h3
          obtain ⟨⟨e1, e2⟩, e3⟩ := h3
          exact Or.inr ⟨k, rfl, vk_OFof ha (va_eqv (cF_at hcF e1) (kval_ev (A := A) hcF hA (Nat.le_of_ble_eq_true e2) (Nat.le_of_ble_eq_true e3))) hA⟩
        all_goals cases h3
      · refine ⟨Or.inr rfl, a, kvS_ev ha, va_Oof (cF_at hcF g1) ha hA, fun j f v hf hv => ?_⟩
        rw [if_neg (by decide)] at hf
        split at g2
        case h_2 => cases g2
        rename_i k9 x9
        simp only [Bool.and_eq_true, decide_eq_true_eq] at g2
        obtain ⟨g6, rfl⟩ := g2
        have g6 := Nat.eq_of_beq_eq_true g6
        subst g6
        match j, hf, hv with
        | 0, hf, hv =>
          cases hf
          cases hv
          have hev := kval_ev (A := A) hcF hA (show 1 ≤ i + 2 by omega) (Nat.le_of_ble_eq_true g5)
          rw [g4] at hev
          exact Or.inr ⟨i + 2, rfl, vk_OFof ha hev hA⟩
        | 1, hf, hv =>
          cases hf
          cases hv
          exact Or.inl ⟨vk_OFof ha (va_eqt (cF_at hcF g3)) hA, 0, rfl⟩
        | j + 2, hf, hv => cases hf
  · cases k with
    | zero =>
      cases hk
      obtain ⟨scr, g1, g2, g3, g4, g5⟩ := hX
      refine ⟨by decide, b, ?_, scr, g1, g2, g3, Nat.le_of_eq g4.symm, congrArg Nat.toInt32 g4, g5, hA b hbl⟩
      refine kvS_ev ?_
      rw [hbv]
      rfl
    | succ i =>
      obtain ⟨h1, h2⟩ := kobj_lt hk
      have ho := obj_at h1
      simp only [objOK, Bool.and_eq_true] at ho
      obtain ⟨⟨⟨⟨ht, hn⟩, ha⟩, hl⟩, he⟩ := ho
      obtain ⟨t9, ht9, hT⟩ := va_Tof (f := fun j => .int (f j)) (A := A) (show n < 2 ^ 31 from Nat.le_of_ble_eq_true hn) (cF_at hcF ha) (va_eqt (cF_at hcF hl)) (fun j hj => va_eqt (cF_at hcF (List.all_eq_true.mp he j (List.mem_range.mpr hj)))) hA
      exact ⟨Nat.le_of_ble_eq_true ht, t9, kvS_ev ht9, hT⟩
  · cases k with
    | zero => cases hk
    | succ i =>
      obtain ⟨h1, h2⟩ := kobj_lt hk
      have ho := obj_at h1
      simp only [objOK, Bool.and_eq_true, decide_eq_true_eq] at ho
      obtain ⟨⟨⟨⟨hi, hn⟩, ha⟩, hl⟩, he⟩ := ho
      subst hi
      have hf : oR n f = oR 12 (fun i => aC (i + 1)) := Option.some.inj (h1.symm.trans KOR)
      have hn9 : n = 12 := by cases hf; rfl
      have hf9 : f = fun i => aC (i + 1) := by cases hf; rfl
      subst hn9
      subst hf9
      obtain ⟨t9, ht9, hT⟩ := va_Tof (f := fun j => kval (kvS av s) (aC (j + 1))) (A := A) (show 12 < 2 ^ 31 by decide) (cF_at hcF ha) (va_eqt (cF_at hcF hl)) (fun j hj => by
        have h3 := List.all_eq_true.mp he j (List.mem_range.mpr hj)
        simp only [Bool.and_eq_true] at h3
        obtain ⟨⟨e1, e2⟩, e3⟩ := h3
        exact va_eqv (cF_at hcF e1) (kval_ev (A := A) hcF hA (Nat.le_of_ble_eq_true e2) (by rw [hKOlen]; omega))) hA
      exact ⟨t9, kvS_ev ht9, hT, fun j => ⟨j + 1, rfl⟩⟩
  · have h2 := tq_ok
    simp only [Bool.and_eq_true] at h2
    exact vx_Zqof (hts _ (List.contains_iff_mem.mp h2.1.1.1.1)) (hts _ (List.contains_iff_mem.mp h2.1.1.2)) (cF_at hcF h2.1.2) hA
  · have h2 := tq_ok
    simp only [Bool.and_eq_true] at h2
    exact vx_Zqof (hts _ (List.contains_iff_mem.mp h2.1.1.1.2)) (hts _ (List.contains_iff_mem.mp h2.1.1.2)) (cF_at hcF h2.2) hA
  · have hb : w.before av s = true := hts w (tb2_w hw)
    unfold okv at ho
    rcases Bool.or_eq_true_iff.mp ho with hg | hg
    · exact word_at (State.WarmedH.refl s) (good_of_word hg) hb
    · cases w <;> first | (simp at hg; done) | exact va_tabs rfl rfl hb | exact hb
  · have h1 := List.all_eq_true.mp sr_ok _ hm
    obtain ⟨z, hz, h2⟩ := List.any_eq_true.mp h1
    simp only [Bool.and_eq_true] at h2
    obtain ⟨a, c, cell, k9, q1, -⟩ := Cond.exactly_spec (cF_at hcF h2.2)
    have hb : (Cond.stringRef own k tx).before av s = true := hts _ (tb2_w hm)
    exact ⟨a, vk_R.of (A := #[]) hb q1⟩
  · have hi9 := (List.getElem?_eq_some_iff.mp hi).1
    have hj9 := (List.getElem?_eq_some_iff.mp hj).1
    have hlen : EXl.length = 6 := by decide
    have h1 := List.all_eq_true.mp (List.all_eq_true.mp nc_ok i (List.mem_range.mpr (by omega))) j (List.mem_range.mpr (by omega))
    rw [hi, hj] at h1
    simp only [Bool.or_eq_true, decide_eq_true_eq] at h1
    exact va_Nc.of (cF_at hcF (h1.resolve_left hne))
theorem vaK_start (hts : ∀ w ∈ lw_tbl, w.before av s = true) : ∃ (D : va_G) (dA : Nat → ClassId), va_K D vwCl (tysOf dA) s := by
  have h0 : ∀ c : Nat, ∃ q : ClassId × (Nat → Nat), ∀ r : vw_C, vwCl[c]? = some r → u_Kn s r.1 r.2.1 r.2.2 q.1 q.2 := by
    intro c
    cases hc : vwCl[c]? with
    | none => exact ⟨(0, fun _ => 0), fun r h => by cases h⟩
    | some r =>
      have h1 := List.all_eq_true.mp kn_ok r (List.mem_of_getElem? hc)
      simp only [Bool.and_eq_true] at h1
      obtain ⟨cC, iS, h2⟩ := u_known (ws := lw_tbl) hts (fun w hw => List.contains_iff_mem.mp (List.all_eq_true.mp h1.1 w hw)) (hts _ (List.contains_iff_mem.mp h1.2))
      exact ⟨(cC, iS), fun r' h => by cases h; exact h2⟩
  obtain ⟨Dq, hDq⟩ := Classical.axiomOfChoice h0
  have h2 := sx_ok2
  simp only [Bool.and_eq_true] at h2
  have h9 : ∀ ty : FieldType, (ty = .int ∨ ty = .char ∨ ty = .byte ∨ ty = .boolean ∨ ty = .long ∨ ty = .double) → ∃ cA : ClassId, ArrOfT s cA ty ∧ s.vm.findClass ("[" ++ ty.toString) = some cA := by
    intro ty hty
    have hw := hts _ (List.contains_iff_mem.mp (List.all_eq_true.mp h2.1.2 ty (by rcases hty with rfl | rfl | rfl | rfl | rfl | rfl <;> simp)))
    obtain ⟨cA, kA, comp, g1, g2, g3⟩ := Cond.arrayClass_spec hw
    exact ⟨cA, fun n z => ⟨fun k h => (by cases h), kA, g2, comp, g3⟩, g1⟩
  obtain ⟨c0, a0, b0⟩ := h9 .int (by simp)
  obtain ⟨c1, a1, b1⟩ := h9 .char (by simp)
  obtain ⟨c2, a2, b2⟩ := h9 .byte (by simp)
  obtain ⟨c3, a3, b3⟩ := h9 .boolean (by simp)
  obtain ⟨c4, a4, b4⟩ := h9 .long (by simp)
  obtain ⟨c5, a5, b5⟩ := h9 .double (by simp)
  obtain ⟨comp, c6, k6, g1, g2, g3, g4, g5⟩ := Cond.arrayOver_spec (hts _ (List.contains_iff_mem.mp h2.2))
  refine ⟨(fun c => (Dq c).1, fun c => (Dq c).2), fun t => ([c0, c1, c2, c3, c4, c5, c6] : List ClassId).getD t 0, fun c q hq => hDq c q hq, fun k q hk => ?_⟩
  have hk7 : k < 7 := (List.getElem?_eq_some_iff.mp hk).1
  have hk8 : k = 0 ∨ k = 1 ∨ k = 2 ∨ k = 3 ∨ k = 4 ∨ k = 5 ∨ k = 6 := by omega
  rcases hk8 with rfl | rfl | rfl | rfl | rfl | rfl | rfl
  · cases hk
    exact ⟨a0, b0⟩
  · cases hk
    exact ⟨a1, b1⟩
  · cases hk
    exact ⟨a2, b2⟩
  · cases hk
    exact ⟨a3, b3⟩
  · cases hk
    exact ⟨a4, b4⟩
  · cases hk
    exact ⟨a5, b5⟩
  · cases hk
    exact ⟨fun N z => ⟨(fun k h => by cases h), k6, g3, comp, g4⟩, k6, comp, g3, g4, g1, g5⟩
end
