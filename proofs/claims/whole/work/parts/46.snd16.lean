/-! SOUNDNESS 16: what the start of the law gives: the launch's constants -/
def KNl : List String := ["NOP", "SET", "COPY", "ADD", "SUB", "LOAD", "STORE", "OUT", "EQUAL", "LESS", "JUMP", "HALT"]
def KSl : List (String × Nat) := [("BranchSlotFiller$Kind", 92), ("BranchSlotFiller$Kind", 94), ("BranchSlotFiller$Kind", 100), ("BranchSlotFiller$Kind", 102), ("BranchSlotFiller$Kind", 105), ("BranchSlotFiller$Kind", 107), ("BranchSlotFiller$Kind", 110), ("BranchSlotFiller$Kind", 112), ("BranchSlotFiller$Kind", 115), ("BranchSlotFiller$Kind", 118), ("BranchSlotFiller$Kind", 120), ("BranchSlotFiller$Kind", 123), ("BranchSlotFiller$Kind", 125), ("BranchSlotFiller$Kind", 128), ("BranchSlotFiller$Kind", 130), ("BranchSlotFiller$Kind", 133), ("BranchSlotFiller$Kind", 135), ("BranchSlotFiller$Kind", 138), ("BranchSlotFiller$Kind", 141), ("BranchSlotFiller$Kind", 143), ("BranchSlotFiller$Kind", 146)]
/-- the term of a constant -/
def KT (k : Nat) : Term :=
  if k = 0 then .arg 0
  else if k ≤ 12 then .static "BranchSlotFiller$Kind" (KNl.getD (k - 1) "") "LBranchSlotFiller$Kind;"
  else if k = 13 then .static "BranchSlotFiller" "KINDS" "[LBranchSlotFiller$Kind;"
  else if k = 14 then .static "BranchSlotFiller$1" "$SwitchMap$BranchSlotFiller$Kind" "[I"
  else if (k - 15) % 2 = 0 then .string (KSl.getD ((k - 15) / 2) ("", 0)).1 (KSl.getD ((k - 15) / 2) ("", 0)).2
  else .field (.string (KSl.getD ((k - 15) / 2) ("", 0)).1 (KSl.getD ((k - 15) / 2) ("", 0)).2) "java/lang/String" "value" "[B"
/-- the places of the premises in the tree of the start's conditions (by program: wip/whole/gen46.py) -/
def OPl : List (List Nat) := [[5449, 2889, 5961, 8009, 2249, 5321, 7369, 2761, 5833, 7497], [7065, 8089, 2137, 5209, 7257, 2649, 5721, 7769, 2393, 6041], [5337, 2777, 5849, 7897, 2521, 5593, 7641, 5081, 7129, 7385], [7737, 5433, 7481, 2873, 5945, 7993, 2233, 5305, 7353, 2361], [6073, 2169, 5241, 7289, 2681, 5753, 7801, 2425, 5497, 8121], [2601, 7721, 2345, 5417, 7465, 2857, 5929, 7977, 2217, 5673], [2729, 7849, 2473, 5545, 7593, 5033, 7081, 6057, 8105, 5801], [2665, 7785, 2409, 5481, 7529, 2921, 5993, 8041, 2281, 5737], [7913, 5609, 7657, 5097, 7145, 6121, 8169, 2073, 5145, 2537], [7929, 5625, 7673, 5113, 7161, 6137, 8185, 2053, 5125, 2553], [2181, 7301, 2693, 5765, 7813, 2437, 5509, 7557, 4997, 5253], [7881, 5577, 7625, 5065, 7113, 6089, 8137, 2089, 5161, 2505], [7681, 2305, 7425, 2817, 5889, 7937, 2177, 5249, 7297, 2689, 5761, 7809, 2433, 5505], [7449, 2841, 5913, 7961, 2201, 5273, 7321, 2713, 5785, 7833, 2457, 5529, 7577, 5017], [8123, 2171], [5243, 7291, 2683, 5755, 7803], [2427, 5499], [7547, 2939, 6011, 8059, 2299], [2647, 3671], [1367, 2903, 3927, 1239, 2775], [3799, 1495], [3031, 4055, 1079, 1591, 1335], [2871, 3895], [1207, 2743, 3767, 1463, 2999, 4023], [1143, 2679], [3703, 1399, 2935, 3959, 1271], [2807, 3831], [1527, 3063, 4087, 1039, 1551], [1295, 2831], [3855, 1167, 2703, 3727, 1423], [2959, 3983], [1103, 1615, 1359, 2895, 3919], [5115, 7163], [6139, 8187, 1031, 1543, 1287, 2823], [3847, 1159], [2695, 3719, 1415, 2951, 3975], [1095, 1607], [1351, 2887, 3911, 1223, 2759, 3783, 1479], [3015, 4039], [1063, 1575, 1319, 2855, 3879], [1191, 2727], [3751, 1447, 2983, 4007, 1127], [2663, 3687], [1383, 2919, 3943, 1255, 2791], [3815, 1511], [3047, 4071, 1047, 1559, 1303, 2839, 3863], [1175, 2711], [3735, 1431, 2967, 3991, 1111], [1231, 2767], [3791, 1487, 3023, 4047, 1071, 1583], [1327, 2863], [3887, 1199, 2735, 3759, 1455, 2991], [4015, 1135], [2671, 3695, 1391, 2927, 3951], [5371, 7419], [2811, 5883, 7931, 2555, 5627, 7675]]
def DPl : List (List Nat) := [[0, 5465, 6105, 2745, 7545, 5289, 2153, 5353, 7193, 7173, 7045, 7209], [5465, 0, 5689, 5049, 7417, 2905, 5977, 8025, 2265, 7429, 2629, 7513], [6105, 5689, 0, 7097, 2809, 2105, 5177, 7225, 2617, 2821, 5701, 8153], [2745, 5049, 7097, 0, 5881, 7865, 2489, 5561, 7609, 5893, 7749, 5817], [7545, 7417, 2809, 5881, 0, 6009, 8057, 2297, 5369, 7941, 2373, 2937], [5289, 2905, 2105, 7865, 6009, 0, 7273, 2793, 5657, 5637, 8069, 7337], [2153, 5977, 5177, 2489, 8057, 7273, 0, 5865, 7705, 7685, 2117, 5225], [5353, 8025, 7225, 5561, 2297, 2793, 5865, 0, 2329, 2309, 5189, 7401], [7193, 2265, 2617, 7609, 5369, 5657, 7705, 2329, 0, 5381, 7237, 2585], [7173, 7429, 2821, 5893, 7941, 5637, 7685, 2309, 5381, 0, 5445, 2565], [7045, 2629, 5701, 7749, 2373, 8069, 2117, 5189, 7237, 5445, 0, 6021], [7209, 7513, 8153, 5817, 2937, 7337, 5225, 7401, 2585, 2565, 6021, 0]]
def NPl : List (List Nat) := [[0, 2213, 2405, 8021, 7829, 6117], [5573, 0, 7525, 5333, 5525, 2069], [5061, 2725, 0, 2773, 5013, 7189], [5157, 7589, 2277, 0, 2133, 2325], [2085, 5541, 8037, 5589, 0, 7701], [7109, 5797, 2917, 5845, 7061, 0]]
def SRl : List (String × Nat × Nat) := [("java/lang/StringIndexOutOfBoundsException", 13, 7637), ("java/util/Arrays", 337, 5237), ("java/util/Arrays", 48, 7541), ("java/util/Arrays", 57, 7157), ("java/util/Arrays", 59, 5261), ("java/lang/ArrayIndexOutOfBoundsException", 13, 2445), ("BranchSlotFiller", 95, 6093), ("BranchSlotFiller", 119, 7597), ("BranchSlotFiller", 125, 2077), ("BranchSlotFiller", 136, 2141), ("BranchSlotFiller", 139, 6109), ("BranchSlotFiller", 151, 7357), ("BranchSlotFiller", 176, 2429), ("BranchSlotFiller", 178, 6141), ("BranchSlotFiller", 190, 4995), ("BranchSlotFiller", 195, 8003), ("BranchSlotFiller", 202, 5219), ("BranchSlotFiller", 212, 7907), ("BranchSlotFiller", 220, 7827), ("BranchSlotFiller", 237, 6099), ("BranchSlotFiller", 247, 5555), ("BranchSlotFiller", 249, 7155), ("BranchSlotFiller", 257, 5195), ("BranchSlotFiller", 296, 5163), ("BranchSlotFiller", 276, 5227), ("BranchSlotFiller", 298, 5611), ("BranchSlotFiller", 293, 5339), ("BranchSlotFiller", 313, 2619), ("BranchSlotFiller$Kind", 92, 8123), ("BranchSlotFiller$Kind", 94, 2427), ("BranchSlotFiller$Kind", 146, 5371), ("BranchSlotFiller$Kind", 118, 5115), ("BranchSlotFiller$Kind", 120, 3847), ("BranchSlotFiller$Kind", 123, 1095), ("BranchSlotFiller$Kind", 125, 3015), ("BranchSlotFiller$Kind", 128, 1191), ("BranchSlotFiller$Kind", 130, 2663), ("BranchSlotFiller$Kind", 133, 3815), ("BranchSlotFiller$Kind", 135, 1175), ("BranchSlotFiller$Kind", 100, 2647), ("BranchSlotFiller$Kind", 102, 3799), ("BranchSlotFiller$Kind", 105, 2871), ("BranchSlotFiller$Kind", 107, 1143), ("BranchSlotFiller$Kind", 110, 2807), ("BranchSlotFiller$Kind", 112, 1295), ("BranchSlotFiller$Kind", 115, 2959), ("BranchSlotFiller$Kind", 138, 1231), ("BranchSlotFiller$Kind", 141, 1327), ("BranchSlotFiller$Kind", 143, 4015)]
def SPl : List Nat := [7169, 7553, 0, 0, 0, 0, 0, 0, 0, 0, 0, 0, 0]
def nav : Nat → Nat → Cond → Option Cond
  | 0, _, _ => none
  | n + 1, p, c => if p = 1 then some c else match c with
    | .and a b => nav n (p / 2) (if p % 2 = 0 then a else b)
    | _ => none
def TT : Cond := Jvm.Cond.and given_1 narrow_1
def cAt (p : Nat) (w : Cond) : Bool := match nav 30 p TT with
  | some c => decide (c = w)
  | none => false
theorem nav_use {av : Array Value} {s : State} {w : Cond} : ∀ (n p : Nat) (c : Cond), nav n p c = some w → c.before av s = true → w.before av s = true := by
  intro n
  induction n with
  | zero => intro p c h; simp [nav] at h
  | succ n ih =>
    intro p c h hb
    unfold nav at h
    split at h
    · cases h
      exact hb
    · split at h
      · rename_i a b
        rw [Cond.before_and, Bool.and_eq_true] at hb
        refine ih _ _ h ?_
        split
        · exact hb.1
        · exact hb.2
      · cases h
theorem cAt_use {av : Array Value} {s : State} {p : Nat} {w : Cond} (h : cAt p w = true) (hb : TT.before av s = true) : w.before av s = true := by
  unfold cAt at h
  split at h
  · rename_i c hc
    have e := of_decide_eq_true h
    subst e
    exact nav_use _ _ _ hc hb
  · cases h
def objOK (i : Nat) (o : AO) : Bool := match o with
  | .inl (c, fs) =>
    (decide (c = 100) && cAt ((OPl.getD i []).getD 0 0) (.exactly (KT (i + 1)) "BranchSlotFiller$Kind") && (List.range 9).all (fun j => match KFl[j]?, fs[j]? with
      | some q, some (.inl x) => cAt ((OPl.getD i []).getD (j + 1) 0) (.eq (.field (KT (i + 1)) q.1 q.2.1 q.2.2) (.int x))
      | some q, some (.inr (.inr (.inl k))) => cAt ((OPl.getD i []).getD (j + 1) 0) (.eq (.field (KT (i + 1)) q.1 q.2.1 q.2.2) (KT k)) && Nat.ble 1 k && Nat.ble k KOl.length
      | _, _ => false)) ||
    (decide (c = 101) && cAt ((OPl.getD i []).getD 0 0) (.exactly (KT (i + 1)) "java/lang/String") && (match fs with | [.inr (.inr (.inl k)), .inl x] => Nat.beq k (i + 2) && decide (x = 0) | _ => false) && cAt ((OPl.getD i []).getD 1 0) (.eq (.field (KT (i + 1)) "java/lang/String" "coder" "B") (.int 0)) && decide (KT (i + 2) = .field (KT (i + 1)) "java/lang/String" "value" "[B") && Nat.ble (i + 2) KOl.length)
  | .inr (.inl (t, n, f)) => Nat.blt t 4 && Nat.blt n 2147483648 && cAt ((OPl.getD i []).getD 0 0) (.arrayOf (KT (i + 1)) (tyT t)) && cAt ((OPl.getD i []).getD 1 0) (.eq (.length (KT (i + 1))) (.int (Int32.ofNat n))) && (List.range n).all (fun j => cAt ((OPl.getD i []).getD (j + 2) 0) (.eq (.elem (KT (i + 1)) (.int (Int32.ofNat j))) (.int (f j))))
  | .inr (.inr (.inr (.inr (n, f)))) => decide (i = 12) && Nat.blt n 2147483648 && cAt ((OPl.getD i []).getD 0 0) (.arrayOf (KT (i + 1)) (.object "BranchSlotFiller$Kind")) && cAt ((OPl.getD i []).getD 1 0) (.eq (.length (KT (i + 1))) (.int (Int32.ofNat n))) && (List.range n).all (fun j => match f j with
      | .inr (.inr (.inl k)) => cAt ((OPl.getD i []).getD (j + 2) 0) (.eq (.elem (KT (i + 1)) (.int (Int32.ofNat j))) (KT k)) && Nat.ble 1 k && Nat.ble k 12
      | _ => false)
  | _ => false
set_option maxRecDepth 100000 in
set_option maxHeartbeats 4000000 in
theorem objs_ok : (List.range KOl.length).all (fun i => match KOl[i]? with | some o => objOK i o | none => false) = true := by decide +kernel
set_option maxRecDepth 100000 in
set_option maxHeartbeats 4000000 in
theorem dist_ok : (List.range 12).all (fun i => (List.range 12).all (fun j => decide (i = j) || cAt ((DPl.getD i []).getD j 0) (.not (.eq (KT (i + 1)) (KT (j + 1)))) || cAt ((DPl.getD i []).getD j 0) (.not (.eq (KT (j + 1)) (KT (i + 1)))))) = true := by decide +kernel
set_option maxRecDepth 100000 in
set_option maxHeartbeats 4000000 in
theorem st_ok : (List.range SVl.length).all (fun i => match SZl[i]?, SVl[i]? with
  | some f, some v => decide (f.2.1 = "") || (lw_tbl.contains (.laysStatic f.1 f.2.1 f.2.2) && lw_tbl.contains (.initialized f.1) && (match v with
    | .inl x => cAt (SPl.getD i 0) (.eq (.static f.1 f.2.1 f.2.2) (.int x))
    | .inr (.inr (.inl k)) => decide (KT k = .static f.1 f.2.1 f.2.2) && Nat.ble 1 k && Nat.ble k KOl.length
    | .inr (.inr (.inr (.inr (.inr (.inr (.inr _)))))) => cAt (SPl.getD i 0) (.isRef (.static f.1 f.2.1 f.2.2))
    | _ => false))
  | _, _ => false) = true := by decide +kernel
set_option maxRecDepth 100000 in
set_option maxHeartbeats 4000000 in
theorem nc_ok : (List.range 6).all (fun i => (List.range 6).all (fun j => decide (i = j) || (match EXl[i]?, EXl[j]? with | some e, some e' => cAt ((NPl.getD i []).getD j 0) (.not (.castable e.1 e'.1)) | _, _ => false))) = true := by decide +kernel
set_option maxRecDepth 100000 in
set_option maxHeartbeats 4000000 in
theorem sr_ok : lw_tb2.all (fun w => match w with | .stringRef own k _ => SRl.any (fun q => Nat.beq q.2.1 k && decide (q.1 = own) && cAt q.2.2 (.exactly (.string own k) "java/lang/String")) | _ => true) = true := by decide +kernel
set_option maxRecDepth 100000 in
set_option maxHeartbeats 4000000 in
theorem tq_ok : (lw_tbl.contains (.laysStatic Bundle.tN "UNASSIGNED_STACK" Bundle.steD) && lw_tbl.contains (.laysStatic Bundle.tN "SUPPRESSED_SENTINEL" Bundle.listD) && lw_tbl.contains (.initialized Bundle.tN) && cAt 7753 (.isRef (.static Bundle.tN "UNASSIGNED_STACK" Bundle.steD)) && cAt 2377 (.isRef (.static Bundle.tN "SUPPRESSED_SENTINEL" Bundle.listD))) = true := by decide +kernel
set_option maxRecDepth 100000 in
set_option maxHeartbeats 4000000 in
theorem kn_ok : vwCl.all (fun r => (u_ws r.1 r.2.1 r.2.2).all (fun w => lw_tbl.contains w) && lw_tbl.contains (.instantiable r.1 r.2.2)) = true := by decide +kernel
set_option maxRecDepth 100000 in
set_option maxHeartbeats 4000000 in
theorem sx_ok : SXl.all (fun y => decide (y.cls = "java/lang/AbstractStringBuilder") && lw_tbl.contains (.privateMethod y) && lw_tbl.contains (.instanceMethod y)) = true := by decide +kernel
theorem sx_ok2 : (lw_tbl.contains (.selects "java/lang/StringBuilder" ⟨"java/lang/AbstractStringBuilder", "isLatin1", "()Z"⟩ ⟨"java/lang/AbstractStringBuilder", "isLatin1", "()Z"⟩) && [FieldType.int, .char, .byte, .boolean, .long, .double].all (fun t => lw_tbl.contains (.arrayClass t)) && lw_tbl.contains (.arrayOver (.object "BranchSlotFiller$Program"))) = true := by decide +kernel
theorem tb2_w {w : Cond} (h : w ∈ lw_tb2) : w ∈ lw_tbl ∨ ∃ y ∈ SXl, w = .selects "java/lang/StringBuilder" y y := by
  unfold lw_tb2 at h
  rcases List.mem_append.mp h with h | h
  · exact Or.inl h
  · obtain ⟨y, hy, e⟩ := List.mem_map.mp h
    exact Or.inr ⟨y, hy, e.symm⟩
section
variable {s : State} {b L : Nat} {xs : Nat → Int32} {A : Nat → Prop} {av : Array Value}
/-- a private method of the class above, found by a StringBuilder -/
theorem sel_sub {y : MethodName} (hts : ∀ w ∈ lw_tbl, w.before av s = true) (hy : y ∈ SXl) : (Cond.selects "java/lang/StringBuilder" y y).before av s = true := by
  have h1 := List.all_eq_true.mp sx_ok y hy
  simp only [Bool.and_eq_true, decide_eq_true_eq] at h1
  obtain ⟨⟨hc, hp⟩, hi⟩ := h1
  have hpriv := hts _ (List.contains_iff_mem.mp hp)
  have hinst := hts _ (List.contains_iff_mem.mp hi)
  have h2 := sx_ok2
  simp only [Bool.and_eq_true] at h2
  obtain ⟨c, r, mI, q1, q2, q3, q4, kP, hkP, hkPi⟩ := Cond.selects_spec (hts _ (List.contains_iff_mem.mp h2.1.1))
  obtain ⟨mk, methM, hnamed, hmethM, -, -⟩ := Cond.instanceMethod_spec hinst
  have hfound : s.methodFound? y.cls y.name y.desc = some mk := State.methodFound?_of_named hnamed (by rw [hc]; exact ⟨by decide, by decide⟩)
  have hsel : selectMethod {} s.vm c mk = .method mk := selectMethod_private hmethM (Cond.privateMethod_at hpriv mk methM hnamed hmethM)
  have hcls : mk.cls = mI.cls := by
    have e1 := findClass_of_methodNamed hnamed
    have e2 := findClass_of_methodNamed q3
    rw [hc] at e1
    exact Option.some.inj (e1.symm.trans e2)
  have hk : s.vm.classes[mk.cls]? = some kP := by rw [hcls]; exact hkP
  simp only [Cond.before, Cond.holds, Cond.value, q1, hfound, hnamed, hsel, hk]
  simp; exact hkPi
noncomputable def kvS (av : Array Value) (s : State) (k : Nat) : Value := match (KT k).eval av s none [] s with
  | some (.ref a) => .ref a
  | _ => .ref 0
theorem kvS_kv : KV (kvS av s) := by
  intro k
  unfold kvS
  split
  · exact ⟨_, rfl⟩
  · exact ⟨_, rfl⟩
theorem kvS_ev {k a : Nat} (h : (KT k).eval av s none [] s = some (.ref a)) : kvS av s k = .ref a := by
  unfold kvS
  rw [h]
theorem obj_at {i : Nat} {o : AO} (h : KOl[i]? = some o) : objOK i o = true := by
  have h1 := List.all_eq_true.mp objs_ok i (List.mem_range.mpr (List.getElem?_eq_some_iff.mp h).1)
  rw [h] at h1
  exact h1
theorem cF_at (hcF : TT.before av s = true) {p : Nat} {w : Cond} (h : cAt p w = true) : w.before av s = true := cAt_use h hcF
/-- a constant's place -/
theorem kref (hcF : TT.before av s = true) (hA : ∀ a : Nat, a < s.heap.size → ¬ A a) {k : Nat} (h1 : 1 ≤ k) (h2 : k ≤ KOl.length) : ∃ a, (KT k).eval av s none [] s = some (.ref a) := by
  obtain ⟨i, rfl⟩ : ∃ i, k = i + 1 := ⟨k - 1, by omega⟩
  obtain ⟨o, hoi⟩ : ∃ o, KOl[i]? = some o := ⟨_, List.getElem?_eq_getElem (show i < KOl.length by omega)⟩
  have ho := obj_at hoi
  rcases o with ⟨c, fs⟩ | ⟨t, n, f⟩ | ⟨n, f⟩ | ⟨n, f⟩ | ⟨n, f⟩
  · simp only [objOK, Bool.or_eq_true, Bool.and_eq_true] at ho
    rcases ho with ⟨⟨-, h⟩, -⟩ | ⟨⟨⟨⟨⟨-, h⟩, -⟩, -⟩, -⟩, -⟩
    · obtain ⟨a, c, cell, k, q1, -⟩ := Cond.exactly_spec (cF_at hcF h)
      exact ⟨a, q1⟩
    · obtain ⟨a, c, cell, k, q1, -⟩ := Cond.exactly_spec (cF_at hcF h)
      exact ⟨a, q1⟩
  · simp only [objOK, Bool.and_eq_true] at ho
    obtain ⟨⟨⟨⟨-, hn⟩, ha⟩, hl⟩, he⟩ := ho
    obtain ⟨t9, ht9, -⟩ := va_Tof (f := fun j => .int (f j)) (A := A) (show n < 2 ^ 31 from Nat.le_of_ble_eq_true hn) (cF_at hcF ha) (va_eqt (cF_at hcF hl)) (fun j hj => va_eqt (cF_at hcF (List.all_eq_true.mp he j (List.mem_range.mpr hj)))) hA
    exact ⟨t9, ht9⟩
  · simp [objOK] at ho
  · simp [objOK] at ho
  · simp only [objOK, Bool.and_eq_true] at ho
    obtain ⟨⟨⟨-, ha⟩, hl⟩, -⟩ := ho
    obtain ⟨t9, cell, ht9, -⟩ := Term.length_spec (va_eqt (cF_at hcF hl))
    exact ⟨t9, ht9⟩
theorem kval_ev (hcF : TT.before av s = true) (hA : ∀ a : Nat, a < s.heap.size → ¬ A a) {k : Nat} (h1 : 1 ≤ k) (h2 : k ≤ KOl.length) : (KT k).eval av s none [] s = some (kvS av s k) := by
  obtain ⟨a, ha⟩ := kref (A := A) hcF hA h1 h2
  rw [kvS_ev ha]
  exact ha
theorem kobj_lt {sc : SC} {k : Nat} {o : AO} (h : kobj sc (k + 1) = some o) : KOl[k]? = some o ∧ k < KOl.length := ⟨h, (List.getElem?_eq_some_iff.mp (show KOl[k]? = some o from h)).1⟩
theorem KOR : KOl[12]? = some (oR 12 (fun i => aC (i + 1))) := rfl
theorem KC_start (hbv : av = #[.ref b]) (hcF : TT.before av s = true) (hts : ∀ w ∈ lw_tbl, w.before av s = true) (hX : va_X b L xs s s.heap) (hbl : b < s.heap.size) (hA : ∀ a : Nat, a < s.heap.size → ¬ A a) : KC (kvS av s) (L, xs) A s s.heap := by
  have hKOlen : KOl.length = 56 := by decide
  refine ⟨kvS_kv, fun i j hi1 hi2 hj1 hj2 e => ?_, ⟨fun i f v hf hv hne => ?_, fun k c fs hk => ?_, fun k t n f hk => ?_, fun k n f hk => ?_, ?_, ?_⟩, fun w hw ho => ?_, fun own k tx hm => ?_, fun i j e e' hi hj hne => ?_⟩
  · obtain ⟨ai, hai⟩ := kref (A := A) hcF hA hi1 (by omega)
    obtain ⟨aj, haj⟩ := kref (A := A) hcF hA hj1 (by omega)
    rw [kvS_ev hai, kvS_ev haj] at e
    have e9 : ai = aj := Value.ref.inj e
    have h1 := List.all_eq_true.mp (List.all_eq_true.mp dist_ok (i - 1) (List.mem_range.mpr (by omega))) (j - 1) (List.mem_range.mpr (by omega))
    rw [show i - 1 + 1 = i by omega, show j - 1 + 1 = j by omega] at h1
    simp only [Bool.or_eq_true, decide_eq_true_eq] at h1
    rcases h1 with (h1 | h1) | h1
    · omega
    · exact absurd e9 (va_neR (cF_at hcF h1) hai haj)
    · exact absurd e9.symm (va_neR (cF_at hcF h1) haj hai)
  · have h1 := List.all_eq_true.mp st_ok i (List.mem_range.mpr (List.getElem?_eq_some_iff.mp hv).1)
    rw [hf, hv] at h1
    simp only [Bool.or_eq_true, Bool.and_eq_true, decide_eq_true_eq] at h1
    obtain ⟨⟨hl, hi⟩, h1⟩ := h1.resolve_left hne
    have hl9 := hts _ (List.contains_iff_mem.mp hl)
    have hi9 := hts _ (List.contains_iff_mem.mp hi)
    rcases v with x | p | k | u | z | z | z | u
    · exact Or.inl ⟨rfl, va_Zof hl9 hi9 (va_eqt (cF_at hcF h1)) hA⟩
    · cases h1
    · simp only [Bool.and_eq_true, decide_eq_true_eq] at h1
      obtain ⟨⟨e1, e2⟩, e3⟩ := h1
      have hev := kval_ev (A := A) hcF hA (Nat.le_of_ble_eq_true e2) (Nat.le_of_ble_eq_true e3)
      rw [e1] at hev
      exact Or.inl ⟨rfl, va_Zof hl9 hi9 hev hA⟩
    · cases h1
    · cases h1
    · cases h1
    · cases h1
    · exact Or.inr ⟨rfl, va_Zqof hl9 hi9 (cF_at hcF h1) hA⟩
  · cases k with
    | zero => cases hk
    | succ i =>
      obtain ⟨h1, h2⟩ := kobj_lt hk
      have ho := obj_at h1
      obtain ⟨a, ha⟩ := kref (A := A) hcF hA (show 1 ≤ i + 1 by omega) (by omega)
      simp only [objOK, Bool.or_eq_true, Bool.and_eq_true, decide_eq_true_eq] at ho
      rcases ho with ⟨⟨rfl, g1⟩, g2⟩ | ⟨⟨⟨⟨⟨rfl, g1⟩, g2⟩, g3⟩, g4⟩, g5⟩
      · refine ⟨Or.inl rfl, a, kvS_ev ha, va_Oof (cF_at hcF g1) ha hA, fun j f v hf hv => ?_⟩
        rw [if_pos rfl] at hf
        have hj9 : j < 9 := (List.getElem?_eq_some_iff.mp hf).1
        have h3 := List.all_eq_true.mp g2 j (List.mem_range.mpr hj9)
        rw [hf, hv] at h3
        rcases v with x | p | k | u | z | z | z | u
        · exact Or.inl ⟨vk_OFof ha (va_eqt (cF_at hcF h3)) hA, x, rfl⟩
        · cases h3
        · simp only [Bool.and_eq_true] at h3
          obtain ⟨⟨e1, e2⟩, e3⟩ := h3
          exact Or.inr ⟨k, rfl, vk_OFof ha (va_eqv (cF_at hcF e1) (kval_ev (A := A) hcF hA (Nat.le_of_ble_eq_true e2) (Nat.le_of_ble_eq_true e3))) hA⟩
        all_goals cases h3
      · refine ⟨Or.inr rfl, a, kvS_ev ha, va_Oof (cF_at hcF g1) ha hA, fun j f v hf hv => ?_⟩
        rw [if_neg (by decide)] at hf
        split at g2
        case h_2 => cases g2
        rename_i k9 x9
        simp only [Bool.and_eq_true, decide_eq_true_eq] at g2
        obtain ⟨g6, rfl⟩ := g2
        have g6 := Nat.eq_of_beq_eq_true g6
        subst g6
        match j, hf, hv with
        | 0, hf, hv =>
          cases hf
          cases hv
          have hev := kval_ev (A := A) hcF hA (show 1 ≤ i + 2 by omega) (Nat.le_of_ble_eq_true g5)
          rw [g4] at hev
          exact Or.inr ⟨i + 2, rfl, vk_OFof ha hev hA⟩
        | 1, hf, hv =>
          cases hf
          cases hv
          exact Or.inl ⟨vk_OFof ha (va_eqt (cF_at hcF g3)) hA, 0, rfl⟩
        | j + 2, hf, hv => cases hf
  · cases k with
    | zero =>
      cases hk
      obtain ⟨scr, g1, g2, g3, g4, g5⟩ := hX
      refine ⟨by decide, b, ?_, scr, g1, g2, g3, Nat.le_of_eq g4.symm, congrArg Nat.toInt32 g4, g5, hA b hbl⟩
      refine kvS_ev ?_
      rw [hbv]
      rfl
    | succ i =>
      obtain ⟨h1, h2⟩ := kobj_lt hk
      have ho := obj_at h1
      simp only [objOK, Bool.and_eq_true] at ho
      obtain ⟨⟨⟨⟨ht, hn⟩, ha⟩, hl⟩, he⟩ := ho
      obtain ⟨t9, ht9, hT⟩ := va_Tof (f := fun j => .int (f j)) (A := A) (show n < 2 ^ 31 from Nat.le_of_ble_eq_true hn) (cF_at hcF ha) (va_eqt (cF_at hcF hl)) (fun j hj => va_eqt (cF_at hcF (List.all_eq_true.mp he j (List.mem_range.mpr hj)))) hA
      exact ⟨Nat.le_of_ble_eq_true ht, t9, kvS_ev ht9, hT⟩
  · cases k with
    | zero => cases hk
    | succ i =>
      obtain ⟨h1, h2⟩ := kobj_lt hk
      have ho := obj_at h1
      simp only [objOK, Bool.and_eq_true, decide_eq_true_eq] at ho
      obtain ⟨⟨⟨⟨hi, hn⟩, ha⟩, hl⟩, he⟩ := ho
      subst hi
      have hf : oR n f = oR 12 (fun i => aC (i + 1)) := Option.some.inj (h1.symm.trans KOR)
      have hn9 : n = 12 := by cases hf; rfl
      have hf9 : f = fun i => aC (i + 1) := by cases hf; rfl
      subst hn9
      subst hf9
      obtain ⟨t9, ht9, hT⟩ := va_Tof (f := fun j => kval (kvS av s) (aC (j + 1))) (A := A) (show 12 < 2 ^ 31 by decide) (cF_at hcF ha) (va_eqt (cF_at hcF hl)) (fun j hj => by
        have h3 := List.all_eq_true.mp he j (List.mem_range.mpr hj)
        simp only [Bool.and_eq_true] at h3
        obtain ⟨⟨e1, e2⟩, e3⟩ := h3
        exact va_eqv (cF_at hcF e1) (kval_ev (A := A) hcF hA (Nat.le_of_ble_eq_true e2) (by rw [hKOlen]; omega))) hA
      exact ⟨t9, kvS_ev ht9, hT, fun j => ⟨j + 1, rfl⟩⟩
  · have h2 := tq_ok
    simp only [Bool.and_eq_true] at h2
    exact vx_Zqof (hts _ (List.contains_iff_mem.mp h2.1.1.1.1)) (hts _ (List.contains_iff_mem.mp h2.1.1.2)) (cF_at hcF h2.1.2) hA
  · have h2 := tq_ok
    simp only [Bool.and_eq_true] at h2
    exact vx_Zqof (hts _ (List.contains_iff_mem.mp h2.1.1.1.2)) (hts _ (List.contains_iff_mem.mp h2.1.1.2)) (cF_at hcF h2.2) hA
  · have hb : w.before av s = true := by
      rcases tb2_w hw with h | ⟨y, hy, rfl⟩
      · exact hts w h
      · exact sel_sub hts hy
    unfold okv at ho
    rcases Bool.or_eq_true_iff.mp ho with hg | hg
    · exact word_at (State.WarmedH.refl s) (good_of_word hg) hb
    · cases w <;> first | (simp at hg; done) | exact va_tabs rfl rfl hb | exact hb
  · have h1 := List.all_eq_true.mp sr_ok _ hm
    obtain ⟨z, hz, h2⟩ := List.any_eq_true.mp h1
    simp only [Bool.and_eq_true] at h2
    obtain ⟨a, c, cell, k9, q1, -⟩ := Cond.exactly_spec (cF_at hcF h2.2)
    have hb : (Cond.stringRef own k tx).before av s = true := by
      rcases tb2_w hm with h | ⟨y, hy, h⟩
      · exact hts _ h
      · cases h
    exact ⟨a, vk_R.of (A := #[]) hb q1⟩
  · have hi9 := (List.getElem?_eq_some_iff.mp hi).1
    have hj9 := (List.getElem?_eq_some_iff.mp hj).1
    have hlen : EXl.length = 6 := by decide
    have h1 := List.all_eq_true.mp (List.all_eq_true.mp nc_ok i (List.mem_range.mpr (by omega))) j (List.mem_range.mpr (by omega))
    rw [hi, hj] at h1
    simp only [Bool.or_eq_true, decide_eq_true_eq] at h1
    exact va_Nc.of (cF_at hcF (h1.resolve_left hne))
theorem vaK_start (hts : ∀ w ∈ lw_tbl, w.before av s = true) : ∃ (D : va_G) (dA : Nat → ClassId), va_K D vwCl (tysOf dA) s := by
  have h0 : ∀ c : Nat, ∃ q : ClassId × (Nat → Nat), ∀ r : vw_C, vwCl[c]? = some r → u_Kn s r.1 r.2.1 r.2.2 q.1 q.2 := by
    intro c
    cases hc : vwCl[c]? with
    | none => exact ⟨(0, fun _ => 0), fun r h => by cases h⟩
    | some r =>
      have h1 := List.all_eq_true.mp kn_ok r (List.mem_of_getElem? hc)
      simp only [Bool.and_eq_true] at h1
      obtain ⟨cC, iS, h2⟩ := u_known (ws := lw_tbl) hts (fun w hw => List.contains_iff_mem.mp (List.all_eq_true.mp h1.1 w hw)) (hts _ (List.contains_iff_mem.mp h1.2))
      exact ⟨(cC, iS), fun r' h => by cases h; exact h2⟩
  obtain ⟨Dq, hDq⟩ := Classical.axiomOfChoice h0
  have h2 := sx_ok2
  simp only [Bool.and_eq_true] at h2
  have h9 : ∀ ty : FieldType, (ty = .int ∨ ty = .char ∨ ty = .byte ∨ ty = .boolean ∨ ty = .long ∨ ty = .double) → ∃ cA : ClassId, ArrOfT s cA ty ∧ s.vm.findClass ("[" ++ ty.toString) = some cA := by
    intro ty hty
    have hw := hts _ (List.contains_iff_mem.mp (List.all_eq_true.mp h2.1.2 ty (by rcases hty with rfl | rfl | rfl | rfl | rfl | rfl <;> simp)))
    obtain ⟨cA, kA, comp, g1, g2, g3⟩ := Cond.arrayClass_spec hw
    exact ⟨cA, fun n z => ⟨fun k h => (by cases h), kA, g2, comp, g3⟩, g1⟩
  obtain ⟨c0, a0, b0⟩ := h9 .int (by simp)
  obtain ⟨c1, a1, b1⟩ := h9 .char (by simp)
  obtain ⟨c2, a2, b2⟩ := h9 .byte (by simp)
  obtain ⟨c3, a3, b3⟩ := h9 .boolean (by simp)
  obtain ⟨c4, a4, b4⟩ := h9 .long (by simp)
  obtain ⟨c5, a5, b5⟩ := h9 .double (by simp)
  obtain ⟨comp, c6, k6, g1, g2, g3, g4, g5⟩ := Cond.arrayOver_spec (hts _ (List.contains_iff_mem.mp h2.2))
  refine ⟨(fun c => (Dq c).1, fun c => (Dq c).2), fun t => ([c0, c1, c2, c3, c4, c5, c6] : List ClassId).getD t 0, fun c q hq => hDq c q hq, fun k q hk => ?_⟩
  have hk7 : k < 7 := (List.getElem?_eq_some_iff.mp hk).1
  have hk8 : k = 0 ∨ k = 1 ∨ k = 2 ∨ k = 3 ∨ k = 4 ∨ k = 5 ∨ k = 6 := by omega
  rcases hk8 with rfl | rfl | rfl | rfl | rfl | rfl | rfl
  · cases hk
    exact ⟨a0, b0⟩
  · cases hk
    exact ⟨a1, b1⟩
  · cases hk
    exact ⟨a2, b2⟩
  · cases hk
    exact ⟨a3, b3⟩
  · cases hk
    exact ⟨a4, b4⟩
  · cases hk
    exact ⟨a5, b5⟩
  · cases hk
    exact ⟨fun N z => ⟨(fun k h => by cases h), k6, g3, comp, g4⟩, k6, comp, g3, g4, g1, g5⟩
end
