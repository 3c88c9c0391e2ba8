/-! BranchSlotFillerModel.<init>()V -/
theorem e_X10_init_0 (sc : SC) (p0 : Nat) (h : AH) : Run sc n_X10_init 0 [aD p0] none [] h = bI (¬ ((nI 120) < 0 ∨ 67108864 < (nI 120).toNatClampNeg)) (Run sc n_X10_init 9 [aD p0] none [aD h.1.length, aD p0] (hpush h (oI 0 (nI 120).toNatClampNeg (fun _ => 0)))) := by
  refine (s_go mt_X10_init dX10_init_0 rfl).trans ?_
  refine (s_go mt_X10_init dX10_init_1 rfl).trans ?_
  refine (s_go mt_X10_init dX10_init_4 rfl).trans ?_
  refine (s_go mt_X10_init dX10_init_5 rfl).trans ?_
  exact q_newarray (mk := fun m => oI 0 m (fun _ => 0)) mt_X10_init dX10_init_7 (fun _ => rfl)
theorem e_X10_init_9 (sc : SC) (p0 : Nat) (q0 : Nat) (q1 : Nat) (h : AH) : Run sc n_X10_init 9 [aD p0] none [aD q1, aD q0] h = bO (putF h q0 12 1 3 (aD q1)) (fun z => Run sc n_X10_init 12 [aD p0] none [] z) := by
  exact q_putfield mt_X10_init dX10_init_9 rfl rfl rfl rfl
theorem e_X10_init_12 (sc : SC) (p0 : Nat) (h : AH) : Run sc n_X10_init 12 [aD p0] none [] h = bI (¬ ((nI 301) < 0 ∨ 67108864 < (nI 301).toNatClampNeg)) (Run sc n_X10_init 18 [aD p0] none [aD h.1.length, aD p0] (hpush h (oI 0 (nI 301).toNatClampNeg (fun _ => 0)))) := by
  refine (s_go mt_X10_init dX10_init_12 rfl).trans ?_
  refine (s_go mt_X10_init dX10_init_13 rfl).trans ?_
  exact q_newarray (mk := fun m => oI 0 m (fun _ => 0)) mt_X10_init dX10_init_16 (fun _ => rfl)
theorem e_X10_init_18 (sc : SC) (p0 : Nat) (q0 : Nat) (q1 : Nat) (h : AH) : Run sc n_X10_init 18 [aD p0] none [aD q1, aD q0] h = bO (putF h q0 12 3 3 (aD q1)) (fun z => Run sc n_X10_init 21 [aD p0] none [] z) := by
  exact q_putfield mt_X10_init dX10_init_18 rfl rfl rfl rfl
theorem e_X10_init_21 (sc : SC) (p0 : Nat) (h : AH) : Run sc n_X10_init 21 [aD p0] none [] h = bI (¬ ((nI 2408) < 0 ∨ 67108864 < (nI 2408).toNatClampNeg)) (Run sc n_X10_init 27 [aD p0] none [aD h.1.length, aD p0] (hpush h (oI 0 (nI 2408).toNatClampNeg (fun _ => 0)))) := by
  refine (s_go mt_X10_init dX10_init_21 rfl).trans ?_
  refine (s_go mt_X10_init dX10_init_22 rfl).trans ?_
  exact q_newarray (mk := fun m => oI 0 m (fun _ => 0)) mt_X10_init dX10_init_25 (fun _ => rfl)
theorem e_X10_init_27 (sc : SC) (p0 : Nat) (q0 : Nat) (q1 : Nat) (h : AH) : Run sc n_X10_init 27 [aD p0] none [aD q1, aD q0] h = bO (putF h q0 12 4 3 (aD q1)) (fun z => Run sc n_X10_init 30 [aD p0] none [] z) := by
  exact q_putfield mt_X10_init dX10_init_27 rfl rfl rfl rfl
theorem e_X10_init_30 (sc : SC) (p0 : Nat) (h : AH) : Run sc n_X10_init 30 [aD p0] none [] h = bI (¬ ((nI 120) < 0 ∨ 67108864 < (nI 120).toNatClampNeg)) (Run sc n_X10_init 35 [aD p0] none [aD h.1.length, aD p0] (hpush h (oI 1 (nI 120).toNatClampNeg (fun _ => 0)))) := by
  refine (s_go mt_X10_init dX10_init_30 rfl).trans ?_
  refine (s_go mt_X10_init dX10_init_31 rfl).trans ?_
  exact q_newarray (mk := fun m => oI 1 m (fun _ => 0)) mt_X10_init dX10_init_33 (fun _ => rfl)
theorem e_X10_init_35 (sc : SC) (p0 : Nat) (q0 : Nat) (q1 : Nat) (h : AH) : Run sc n_X10_init 35 [aD p0] none [aD q1, aD q0] h = bO (putF h q0 12 6 3 (aD q1)) (fun z => Run sc n_X10_init 38 [aD p0] none [] z) := by
  exact q_putfield mt_X10_init dX10_init_35 rfl rfl rfl rfl
theorem e_X10_init_38 (sc : SC) (p0 : Nat) (h : AH) : Run sc n_X10_init 38 [aD p0] none [] h = bI (¬ ((nI 244) < 0 ∨ 67108864 < (nI 244).toNatClampNeg)) (Run sc n_X10_init 44 [aD p0] none [aD h.1.length, aD p0] (hpush h (oI 0 (nI 244).toNatClampNeg (fun _ => 0)))) := by
  refine (s_go mt_X10_init dX10_init_38 rfl).trans ?_
  refine (s_go mt_X10_init dX10_init_39 rfl).trans ?_
  exact q_newarray (mk := fun m => oI 0 m (fun _ => 0)) mt_X10_init dX10_init_42 (fun _ => rfl)
theorem e_X10_init_44 (sc : SC) (p0 : Nat) (q0 : Nat) (q1 : Nat) (h : AH) : Run sc n_X10_init 44 [aD p0] none [aD q1, aD q0] h = bO (putF h q0 12 11 3 (aD q1)) (fun z => Run sc n_X10_init 47 [aD p0] none [] z) := by
  exact q_putfield mt_X10_init dX10_init_44 rfl rfl rfl rfl
theorem e_X10_init_47 (sc : SC) (p0 : Nat) (h : AH) : Run sc n_X10_init 47 [aD p0] none [] h = bI (¬ ((nI 62) < 0 ∨ 67108864 < (nI 62).toNatClampNeg)) (Run sc n_X10_init 52 [aD p0] none [aD h.1.length, aD p0] (hpush h (oI 3 (nI 62).toNatClampNeg (fun _ => 0)))) := by
  refine (s_go mt_X10_init dX10_init_47 rfl).trans ?_
  refine (s_go mt_X10_init dX10_init_48 rfl).trans ?_
  exact q_newarray (mk := fun m => oI 3 m (fun _ => 0)) mt_X10_init dX10_init_50 (fun _ => rfl)
theorem e_X10_init_52 (sc : SC) (p0 : Nat) (q0 : Nat) (q1 : Nat) (h : AH) : Run sc n_X10_init 52 [aD p0] none [aD q1, aD q0] h = bO (putF h q0 12 13 3 (aD q1)) (fun z => Run sc n_X10_init 55 [aD p0] none [] z) := by
  exact q_putfield mt_X10_init dX10_init_52 rfl rfl rfl rfl
theorem e_X10_init_55 (sc : SC) (p0 : Nat) (h : AH) : Run sc n_X10_init 55 [aD p0] none [] h = bI (¬ ((nI 62) < 0 ∨ 67108864 < (nI 62).toNatClampNeg)) (Run sc n_X10_init 60 [aD p0] none [aD h.1.length, aD p0] (hpush h (oI 0 (nI 62).toNatClampNeg (fun _ => 0)))) := by
  refine (s_go mt_X10_init dX10_init_55 rfl).trans ?_
  refine (s_go mt_X10_init dX10_init_56 rfl).trans ?_
  exact q_newarray (mk := fun m => oI 0 m (fun _ => 0)) mt_X10_init dX10_init_58 (fun _ => rfl)
theorem e_X10_init_60 (sc : SC) (p0 : Nat) (q0 : Nat) (q1 : Nat) (h : AH) : Run sc n_X10_init 60 [aD p0] none [aD q1, aD q0] h = bO (putF h q0 12 14 3 (aD q1)) (fun z => Run sc n_X10_init 63 [aD p0] none [] z) := by
  exact q_putfield mt_X10_init dX10_init_60 rfl rfl rfl rfl
theorem e_X10_init_63 (sc : SC) (p0 : Nat) (h : AH) : Run sc n_X10_init 63 [aD p0] none [] h = bI (¬ ((nI 1200) < 0 ∨ 67108864 < (nI 1200).toNatClampNeg)) (Run sc n_X10_init 69 [aD p0] none [aD h.1.length, aD p0] (hpush h (oI 1 (nI 1200).toNatClampNeg (fun _ => 0)))) := by
  refine (s_go mt_X10_init dX10_init_63 rfl).trans ?_
  refine (s_go mt_X10_init dX10_init_64 rfl).trans ?_
  exact q_newarray (mk := fun m => oI 1 m (fun _ => 0)) mt_X10_init dX10_init_67 (fun _ => rfl)
theorem e_X10_init_69 (sc : SC) (p0 : Nat) (q0 : Nat) (q1 : Nat) (h : AH) : Run sc n_X10_init 69 [aD p0] none [aD q1, aD q0] h = bO (putF h q0 12 15 3 (aD q1)) (fun z => Run sc n_X10_init 72 [aD p0] none [] z) := by
  exact q_putfield mt_X10_init dX10_init_69 rfl rfl rfl rfl
theorem e_X10_init_72 (sc : SC) (p0 : Nat) (h : AH) : Run sc n_X10_init 72 [aD p0] none [] h = bI (¬ ((nI 24) < 0 ∨ 67108864 < (nI 24).toNatClampNeg)) (Run sc n_X10_init 77 [aD p0] none [aD h.1.length, aD p0] (hpush h (oI 0 (nI 24).toNatClampNeg (fun _ => 0)))) := by
  refine (s_go mt_X10_init dX10_init_72 rfl).trans ?_
  refine (s_go mt_X10_init dX10_init_73 rfl).trans ?_
  exact q_newarray (mk := fun m => oI 0 m (fun _ => 0)) mt_X10_init dX10_init_75 (fun _ => rfl)
theorem e_X10_init_77 (sc : SC) (p0 : Nat) (q0 : Nat) (q1 : Nat) (h : AH) : Run sc n_X10_init 77 [aD p0] none [aD q1, aD q0] h = bO (putF h q0 12 17 3 (aD q1)) (fun z => Run sc n_X10_init 80 [aD p0] none [] z) := by
  exact q_putfield mt_X10_init dX10_init_77 rfl rfl rfl rfl
theorem e_X10_init_80 (sc : SC) (p0 : Nat) (h : AH) : Run sc n_X10_init 80 [aD p0] none [] h = bI (¬ ((nI 24) < 0 ∨ 67108864 < (nI 24).toNatClampNeg)) (Run sc n_X10_init 85 [aD p0] none [aD h.1.length, aD p0] (hpush h (oI 0 (nI 24).toNatClampNeg (fun _ => 0)))) := by
  refine (s_go mt_X10_init dX10_init_80 rfl).trans ?_
  refine (s_go mt_X10_init dX10_init_81 rfl).trans ?_
  exact q_newarray (mk := fun m => oI 0 m (fun _ => 0)) mt_X10_init dX10_init_83 (fun _ => rfl)
theorem e_X10_init_85 (sc : SC) (p0 : Nat) (q0 : Nat) (q1 : Nat) (h : AH) : Run sc n_X10_init 85 [aD p0] none [aD q1, aD q0] h = bO (putF h q0 12 18 3 (aD q1)) (fun z => Run sc n_X10_init 88 [aD p0] none [] z) := by
  exact q_putfield mt_X10_init dX10_init_85 rfl rfl rfl rfl
theorem e_X10_init_88 (sc : SC) (p0 : Nat) (h : AH) : Run sc n_X10_init 88 [aD p0] none [] h = bI (¬ ((nI 2000) < 0 ∨ 67108864 < (nI 2000).toNatClampNeg)) (Run sc n_X10_init 94 [aD p0] none [aD h.1.length, aD p0] (hpush h (oI 0 (nI 2000).toNatClampNeg (fun _ => 0)))) := by
  refine (s_go mt_X10_init dX10_init_88 rfl).trans ?_
  refine (s_go mt_X10_init dX10_init_89 rfl).trans ?_
  exact q_newarray (mk := fun m => oI 0 m (fun _ => 0)) mt_X10_init dX10_init_92 (fun _ => rfl)
theorem e_X10_init_94 (sc : SC) (p0 : Nat) (q0 : Nat) (q1 : Nat) (h : AH) : Run sc n_X10_init 94 [aD p0] none [aD q1, aD q0] h = bO (putF h q0 12 19 3 (aD q1)) (fun z => Run sc n_X10_init 97 [aD p0] none [] z) := by
  exact q_putfield mt_X10_init dX10_init_94 rfl rfl rfl rfl
theorem e_X10_init_97 (sc : SC) (p0 : Nat) (h : AH) : Run sc n_X10_init 97 [aD p0] none [] h = bI (¬ ((nI 24) < 0 ∨ 67108864 < (nI 24).toNatClampNeg)) (Run sc n_X10_init 102 [aD p0] none [aD h.1.length, aD p0] (hpush h (oI 0 (nI 24).toNatClampNeg (fun _ => 0)))) := by
  refine (s_go mt_X10_init dX10_init_97 rfl).trans ?_
  refine (s_go mt_X10_init dX10_init_98 rfl).trans ?_
  exact q_newarray (mk := fun m => oI 0 m (fun _ => 0)) mt_X10_init dX10_init_100 (fun _ => rfl)
theorem e_X10_init_102 (sc : SC) (p0 : Nat) (q0 : Nat) (q1 : Nat) (h : AH) : Run sc n_X10_init 102 [aD p0] none [aD q1, aD q0] h = bO (putF h q0 12 23 3 (aD q1)) (fun z => Run sc n_X10_init 105 [aD p0] none [] z) := by
  exact q_putfield mt_X10_init dX10_init_102 rfl rfl rfl rfl
theorem e_X10_init_105 (sc : SC) (p0 : Nat) (h : AH) : Run sc n_X10_init 105 [aD p0] none [] h = bI (¬ ((nI 2000) < 0 ∨ 67108864 < (nI 2000).toNatClampNeg)) (Run sc n_X10_init 111 [aD p0] none [aD h.1.length, aD p0] (hpush h (oI 0 (nI 2000).toNatClampNeg (fun _ => 0)))) := by
  refine (s_go mt_X10_init dX10_init_105 rfl).trans ?_
  refine (s_go mt_X10_init dX10_init_106 rfl).trans ?_
  exact q_newarray (mk := fun m => oI 0 m (fun _ => 0)) mt_X10_init dX10_init_109 (fun _ => rfl)
theorem e_X10_init_111 (sc : SC) (p0 : Nat) (q0 : Nat) (q1 : Nat) (h : AH) : Run sc n_X10_init 111 [aD p0] none [aD q1, aD q0] h = bO (putF h q0 12 24 3 (aD q1)) (fun z => Run sc n_X10_init 114 [aD p0] none [] z) := by
  exact q_putfield mt_X10_init dX10_init_111 rfl rfl rfl rfl
theorem e_X10_init_114 (sc : SC) (p0 : Nat) (h : AH) : Run sc n_X10_init 114 [aD p0] none [] h = bI (¬ ((nI 24) < 0 ∨ 67108864 < (nI 24).toNatClampNeg)) (Run sc n_X10_init 119 [aD p0] none [aD h.1.length, aD p0] (hpush h (oI 0 (nI 24).toNatClampNeg (fun _ => 0)))) := by
  refine (s_go mt_X10_init dX10_init_114 rfl).trans ?_
  refine (s_go mt_X10_init dX10_init_115 rfl).trans ?_
  exact q_newarray (mk := fun m => oI 0 m (fun _ => 0)) mt_X10_init dX10_init_117 (fun _ => rfl)
theorem e_X10_init_119 (sc : SC) (p0 : Nat) (q0 : Nat) (q1 : Nat) (h : AH) : Run sc n_X10_init 119 [aD p0] none [aD q1, aD q0] h = bO (putF h q0 12 26 3 (aD q1)) (fun z => Run sc n_X10_init 122 [aD p0] none [] z) := by
  exact q_putfield mt_X10_init dX10_init_119 rfl rfl rfl rfl
theorem e_X10_init_122 (sc : SC) (p0 : Nat) (h : AH) : Run sc n_X10_init 122 [aD p0] none [] h = bI (¬ ((nI 16) < 0 ∨ 67108864 < (nI 16).toNatClampNeg)) (Run sc n_X10_init 127 [aD p0] none [aD h.1.length, aD p0] (hpush h (oI 0 (nI 16).toNatClampNeg (fun _ => 0)))) := by
  refine (s_go mt_X10_init dX10_init_122 rfl).trans ?_
  refine (s_go mt_X10_init dX10_init_123 rfl).trans ?_
  exact q_newarray (mk := fun m => oI 0 m (fun _ => 0)) mt_X10_init dX10_init_125 (fun _ => rfl)
theorem e_X10_init_127 (sc : SC) (p0 : Nat) (q0 : Nat) (q1 : Nat) (h : AH) : Run sc n_X10_init 127 [aD p0] none [aD q1, aD q0] h = bO (putF h q0 12 28 3 (aD q1)) (fun z => Run sc n_X10_init 130 [aD p0] none [] z) := by
  exact q_putfield mt_X10_init dX10_init_127 rfl rfl rfl rfl
theorem e_X10_init_130 (sc : SC) (p0 : Nat) (h : AH) : Run sc n_X10_init 130 [aD p0] none [] h = bI (¬ ((nI 2000) < 0 ∨ 67108864 < (nI 2000).toNatClampNeg)) (Run sc n_X10_init 136 [aD p0] none [aD h.1.length, aD p0] (hpush h (oI 0 (nI 2000).toNatClampNeg (fun _ => 0)))) := by
  refine (s_go mt_X10_init dX10_init_130 rfl).trans ?_
  refine (s_go mt_X10_init dX10_init_131 rfl).trans ?_
  exact q_newarray (mk := fun m => oI 0 m (fun _ => 0)) mt_X10_init dX10_init_134 (fun _ => rfl)
theorem e_X10_init_136 (sc : SC) (p0 : Nat) (q0 : Nat) (q1 : Nat) (h : AH) : Run sc n_X10_init 136 [aD p0] none [aD q1, aD q0] h = bO (putF h q0 12 29 3 (aD q1)) (fun z => Run sc n_X10_init 139 [aD p0] none [] z) := by
  exact q_putfield mt_X10_init dX10_init_136 rfl rfl rfl rfl
theorem e_X10_init_139 (sc : SC) (p0 : Nat) (h : AH) : Run sc n_X10_init 139 [aD p0] none [] h = bI (¬ ((nI 120) < 0 ∨ 67108864 < (nI 120).toNatClampNeg)) (Run sc n_X10_init 144 [aD p0] none [aD h.1.length, aD p0] (hpush h (oI 0 (nI 120).toNatClampNeg (fun _ => 0)))) := by
  refine (s_go mt_X10_init dX10_init_139 rfl).trans ?_
  refine (s_go mt_X10_init dX10_init_140 rfl).trans ?_
  exact q_newarray (mk := fun m => oI 0 m (fun _ => 0)) mt_X10_init dX10_init_142 (fun _ => rfl)
theorem e_X10_init_144 (sc : SC) (p0 : Nat) (q0 : Nat) (q1 : Nat) (h : AH) : Run sc n_X10_init 144 [aD p0] none [aD q1, aD q0] h = bO (putF h q0 12 31 3 (aD q1)) (fun z => Run sc n_X10_init 147 [aD p0] none [] z) := by
  exact q_putfield mt_X10_init dX10_init_144 rfl rfl rfl rfl
theorem e_X10_init_147 (sc : SC) (p0 : Nat) (h : AH) : Run sc n_X10_init 147 [aD p0] none [] h = bI (¬ ((nI 301) < 0 ∨ 67108864 < (nI 301).toNatClampNeg)) (Run sc n_X10_init 153 [aD p0] none [aD h.1.length, aD p0] (hpush h (oI 0 (nI 301).toNatClampNeg (fun _ => 0)))) := by
  refine (s_go mt_X10_init dX10_init_147 rfl).trans ?_
  refine (s_go mt_X10_init dX10_init_148 rfl).trans ?_
  exact q_newarray (mk := fun m => oI 0 m (fun _ => 0)) mt_X10_init dX10_init_151 (fun _ => rfl)
theorem e_X10_init_153 (sc : SC) (p0 : Nat) (q0 : Nat) (q1 : Nat) (h : AH) : Run sc n_X10_init 153 [aD p0] none [aD q1, aD q0] h = bO (putF h q0 12 33 3 (aD q1)) (fun z => Run sc n_X10_init 156 [aD p0] none [] z) := by
  exact q_putfield mt_X10_init dX10_init_153 rfl rfl rfl rfl
theorem e_X10_init_156 (sc : SC) (p0 : Nat) (h : AH) : Run sc n_X10_init 156 [aD p0] none [] h = bI (¬ ((nI 24) < 0 ∨ 67108864 < (nI 24).toNatClampNeg)) (Run sc n_X10_init 161 [aD p0] none [aD h.1.length, aD p0] (hpush h (oI 0 (nI 24).toNatClampNeg (fun _ => 0)))) := by
  refine (s_go mt_X10_init dX10_init_156 rfl).trans ?_
  refine (s_go mt_X10_init dX10_init_157 rfl).trans ?_
  exact q_newarray (mk := fun m => oI 0 m (fun _ => 0)) mt_X10_init dX10_init_159 (fun _ => rfl)
theorem e_X10_init_161 (sc : SC) (p0 : Nat) (q0 : Nat) (q1 : Nat) (h : AH) : Run sc n_X10_init 161 [aD p0] none [aD q1, aD q0] h = bO (putF h q0 12 34 3 (aD q1)) (fun z => Run sc n_X10_init 164 [aD p0] none [] z) := by
  exact q_putfield mt_X10_init dX10_init_161 rfl rfl rfl rfl
theorem e_X10_init_164 (sc : SC) (p0 : Nat) (h : AH) : Run sc n_X10_init 164 [aD p0] none [] h = some (.inl none, h) := by
  exact q_ret (c := (none, h)) mt_X10_init dX10_init_164 rfl
/-! BranchSlotFillerModel.fail(I)I -/
theorem e_X10_fail_0 (sc : SC) (p0 : Nat) (x1 : Int32) (h : AH) : Run sc n_X10_fail 0 [aD p0, aI x1] none [] h = bO (putF h p0 12 0 0 (aI x1)) (fun z => Run sc n_X10_fail 5 [aD p0, aI x1] none [] z) := by
  refine (s_go mt_X10_fail dX10_fail_0 rfl).trans ?_
  refine (s_go mt_X10_fail dX10_fail_1 rfl).trans ?_
  exact q_putfield mt_X10_fail dX10_fail_2 rfl rfl rfl rfl
theorem e_X10_fail_5 (sc : SC) (p0 : Nat) (x1 : Int32) (h : AH) : Run sc n_X10_fail 5 [aD p0, aI x1] none [] h = some (.inl (some (aI (nI 0))), h) := by
  refine (s_go mt_X10_fail dX10_fail_5 rfl).trans ?_
  exact q_ret (c := (some (aI (nI 0)), h)) mt_X10_fail dX10_fail_6 rfl
/-! BranchSlotFillerModel.feed(C)I -/
theorem e_X10_feed_0 (sc : SC) (p0 : Nat) (x1 : Int32) (h : AH) : Run sc n_X10_feed 0 [aD p0, aI x1] none [] h = bO (putF h p0 12 0 0 (aI (nI 0))) (fun z => Run sc n_X10_feed 5 [aD p0, aI x1] none [] z) := by
  refine (s_go mt_X10_feed dX10_feed_0 rfl).trans ?_
  refine (s_go mt_X10_feed dX10_feed_1 rfl).trans ?_
  exact q_putfield mt_X10_feed dX10_feed_2 rfl rfl rfl rfl
theorem e_X10_feed_14 (sc : SC) (p0 : Nat) (x1 : Int32) (h : AH) : Run sc n_X10_feed 14 [aD p0, aI x1] none [] h = bI (rOK sc h (aD p0) 12 = true) (bC (Call sc n_X10_fail [aD p0, aI (nI 1)] h) (fun v z => Run sc n_X10_feed 19 [aD p0, aI x1] none (v.toList ++ []) z) (fun E z => some (.inr E, z))) := by
  refine (s_go mt_X10_feed dX10_feed_14 rfl).trans ?_
  refine (s_go mt_X10_feed dX10_feed_15 rfl).trans ?_
  exact q_cV mt_X10_feed dX10_feed_16 rfl mt_X10_fail rfl rfl rfl
theorem e_X10_feed_20 (sc : SC) (p0 : Nat) (x1 : Int32) (h : AH) : Run sc n_X10_feed 20 [aD p0, aI x1] none [] h = bF (getF sc h (aD p0) 12 6) (fun z => Run sc n_X10_feed 24 [aD p0, aI x1] none [z] h) := by
  refine (s_go mt_X10_feed dX10_feed_20 rfl).trans ?_
  exact q_getfield mt_X10_feed dX10_feed_21 rfl
theorem e_X10_feed_5 (sc : SC) (p0 : Nat) (x1 : Int32) (h : AH) : Run sc n_X10_feed 5 [aD p0, aI x1] none [] h = bF (getF sc h (aD p0) 12 7) (fun z => Run sc n_X10_feed 9 [aD p0, aI x1] none [z] h) := by
  refine (s_go mt_X10_feed dX10_feed_5 rfl).trans ?_
  exact q_getfield mt_X10_feed dX10_feed_6 rfl
theorem e_X10_feed_19 (sc : SC) (p0 : Nat) (x1 : Int32) (y0 : Int32) (h : AH) : Run sc n_X10_feed 19 [aD p0, aI x1] none [aI y0] h = some (.inl (some (aI y0)), h) := by
  exact q_ret (c := (some (aI y0), h)) mt_X10_feed dX10_feed_19 rfl
theorem e_X10_feed_24 (sc : SC) (p0 : Nat) (x1 : Int32) (q0 : Nat) (h : AH) : Run sc n_X10_feed 24 [aD p0, aI x1] none [aD q0] h = bF (getF sc h (aD p0) 12 7) (fun z => Run sc n_X10_feed 28 [aD p0, aI x1] none [z, aD q0] h) := by
  refine (s_go mt_X10_feed dX10_feed_24 rfl).trans ?_
  exact q_getfield mt_X10_feed dX10_feed_25 rfl
theorem e_X10_feed_9 (sc : SC) (p0 : Nat) (x1 : Int32) (y0 : Int32) (h : AH) : Run sc n_X10_feed 9 [aD p0, aI x1] none [aI y0] h = Run sc n_X10_feed (if ¬ y0 = (nI 120) then 20 else 14) [aD p0, aI x1] none [] h := by
  refine (s_go mt_X10_feed dX10_feed_9 rfl).trans ?_
  exact q_icmp mt_X10_feed dX10_feed_11 (fun _ _ _ _ => rfl) rfl
theorem e_X10_feed_28 (sc : SC) (p0 : Nat) (x1 : Int32) (q0 : Nat) (y1 : Int32) (h : AH) : Run sc n_X10_feed 28 [aD p0, aI x1] none [aI y1, aD q0] h = bO (stI h (fun t => t == 1) q0 y1 x1) (fun z => Run sc n_X10_feed 30 [aD p0, aI x1] none [] z) := by
  refine (s_go mt_X10_feed dX10_feed_28 rfl).trans ?_
  exact q_castore mt_X10_feed dX10_feed_29
theorem e_X10_feed_30 (sc : SC) (p0 : Nat) (x1 : Int32) (h : AH) : Run sc n_X10_feed 30 [aD p0, aI x1] none [] h = bF (getF sc h (aD p0) 12 7) (fun z => Run sc n_X10_feed 35 [aD p0, aI x1] none [z, aD p0] h) := by
  refine (s_go mt_X10_feed dX10_feed_30 rfl).trans ?_
  refine (s_go mt_X10_feed dX10_feed_31 rfl).trans ?_
  exact q_getfield mt_X10_feed dX10_feed_32 rfl
theorem e_X10_feed_35 (sc : SC) (p0 : Nat) (x1 : Int32) (q0 : Nat) (y1 : Int32) (h : AH) : Run sc n_X10_feed 35 [aD p0, aI x1] none [aI y1, aD q0] h = bO (putF h q0 12 7 0 (aI (y1 + (nI 1)))) (fun z => Run sc n_X10_feed 40 [aD p0, aI x1] none [] z) := by
  refine (s_go mt_X10_feed dX10_feed_35 rfl).trans ?_
  refine (s_go mt_X10_feed dX10_feed_36 rfl).trans ?_
  exact q_putfield mt_X10_feed dX10_feed_37 rfl rfl rfl rfl
theorem e_X10_feed_40 (sc : SC) (p0 : Nat) (x1 : Int32) (h : AH) : Run sc n_X10_feed 40 [aD p0, aI x1] none [] h = bF (getF sc h (aD p0) 12 7) (fun z => Run sc n_X10_feed 44 [aD p0, aI x1] none [z] h) := by
  refine (s_go mt_X10_feed dX10_feed_40 rfl).trans ?_
  exact q_getfield mt_X10_feed dX10_feed_41 rfl
theorem e_X10_feed_44 (sc : SC) (p0 : Nat) (x1 : Int32) (y0 : Int32) (h : AH) : Run sc n_X10_feed 44 [aD p0, aI x1] none [aI y0] h = some (.inl (some (aI y0)), h) := by
  exact q_ret (c := (some (aI y0), h)) mt_X10_feed dX10_feed_44 rfl
/-! BranchSlotFillerModel.thrown()I -/
theorem e_X10_thrown_0 (sc : SC) (p0 : Nat) (h : AH) : Run sc n_X10_thrown 0 [aD p0] none [] h = bF (getF sc h (aD p0) 12 0) (fun z => Run sc n_X10_thrown 4 [aD p0] none [z] h) := by
  refine (s_go mt_X10_thrown dX10_thrown_0 rfl).trans ?_
  exact q_getfield mt_X10_thrown dX10_thrown_1 rfl
theorem e_X10_thrown_4 (sc : SC) (p0 : Nat) (y0 : Int32) (h : AH) : Run sc n_X10_thrown 4 [aD p0] none [aI y0] h = some (.inl (some (aI y0)), h) := by
  exact q_ret (c := (some (aI y0), h)) mt_X10_thrown dX10_thrown_4 rfl
/-! BranchSlotFillerModel.isIn(III)Z -/
theorem e_X10_isIn_0 (sc : SC) (x0 : Int32) (x1 : Int32) (x2 : Int32) (h : AH) : Run sc n_X10_isIn 0 [aI x0, aI x1, aI x2] none [] h = Run sc n_X10_isIn (if x0 < x1 then 14 else 5) [aI x0, aI x1, aI x2] none [] h := by
  refine (s_go mt_X10_isIn dX10_isIn_0 rfl).trans ?_
  refine (s_go mt_X10_isIn dX10_isIn_1 rfl).trans ?_
  exact q_icmp mt_X10_isIn dX10_isIn_2 (fun _ _ _ _ => rfl) rfl
theorem e_X10_isIn_5 (sc : SC) (x0 : Int32) (x1 : Int32) (x2 : Int32) (h : AH) : Run sc n_X10_isIn 5 [aI x0, aI x1, aI x2] none [] h = Run sc n_X10_isIn (if x2 < x0 then 14 else 10) [aI x0, aI x1, aI x2] none [] h := by
  refine (s_go mt_X10_isIn dX10_isIn_5 rfl).trans ?_
  refine (s_go mt_X10_isIn dX10_isIn_6 rfl).trans ?_
  exact q_icmp mt_X10_isIn dX10_isIn_7 (fun _ _ _ _ => rfl) rfl
theorem e_X10_isIn_10 (sc : SC) (x0 : Int32) (x1 : Int32) (x2 : Int32) (h : AH) : Run sc n_X10_isIn 10 [aI x0, aI x1, aI x2] none [] h = Run sc n_X10_isIn 15 [aI x0, aI x1, aI x2] none [aI (nI 1)] h := by
  refine (s_go mt_X10_isIn dX10_isIn_10 rfl).trans ?_
  refine (s_go mt_X10_isIn dX10_isIn_11 rfl).trans ?_
  exact rfl
theorem e_X10_isIn_14 (sc : SC) (x0 : Int32) (x1 : Int32) (x2 : Int32) (h : AH) : Run sc n_X10_isIn 14 [aI x0, aI x1, aI x2] none [] h = Run sc n_X10_isIn 15 [aI x0, aI x1, aI x2] none [aI (nI 0)] h := by
  refine (s_go mt_X10_isIn dX10_isIn_14 rfl).trans ?_
  exact rfl
theorem e_X10_isIn_15 (sc : SC) (x0 : Int32) (x1 : Int32) (x2 : Int32) (y0 : Int32) (h : AH) : Run sc n_X10_isIn 15 [aI x0, aI x1, aI x2] none [aI y0] h = bI (retK (some FieldType.boolean) y0 = true) (some (.inl (some (aI y0)), h)) := by
  exact q_iret mt_X10_isIn dX10_isIn_15
/-! BranchSlotFillerModel.letterAt(I)I -/
theorem e_X10_letterAt_0 (sc : SC) (p0 : Nat) (x1 : Int32) (h : AH) : Run sc n_X10_letterAt 0 [aD p0, aI x1] none [] h = bF (getF sc h (aD p0) 12 8) (fun z => Run sc n_X10_letterAt 5 [aD p0, aI x1] none [z, aI x1] h) := by
  refine (s_go mt_X10_letterAt dX10_letterAt_0 rfl).trans ?_
  refine (s_go mt_X10_letterAt dX10_letterAt_1 rfl).trans ?_
  exact q_getfield mt_X10_letterAt dX10_letterAt_2 rfl
theorem e_X10_letterAt_8 (sc : SC) (p0 : Nat) (x1 : Int32) (h : AH) : Run sc n_X10_letterAt 8 [aD p0, aI x1] none [] h = bF (getF sc h (aD p0) 12 6) (fun z => Run sc n_X10_letterAt 12 [aD p0, aI x1] none [z] h) := by
  refine (s_go mt_X10_letterAt dX10_letterAt_8 rfl).trans ?_
  exact q_getfield mt_X10_letterAt dX10_letterAt_9 rfl
theorem e_X10_letterAt_24 (sc : SC) (p0 : Nat) (x1 : Int32) (h : AH) : Run sc n_X10_letterAt 24 [aD p0, aI x1] none [] h = bF (getF sc h (aD p0) 12 6) (fun z => Run sc n_X10_letterAt 28 [aD p0, aI x1] none [z] h) := by
  refine (s_go mt_X10_letterAt dX10_letterAt_24 rfl).trans ?_
  exact q_getfield mt_X10_letterAt dX10_letterAt_25 rfl
theorem e_X10_letterAt_33 (sc : SC) (p0 : Nat) (x1 : Int32) (h : AH) : Run sc n_X10_letterAt 33 [aD p0, aI x1] none [] h = Run sc n_X10_letterAt 34 [aD p0, aI x1] none [aI (nI 0)] h := by
  refine (s_go mt_X10_letterAt dX10_letterAt_33 rfl).trans ?_
  exact rfl
theorem e_X10_letterAt_34 (sc : SC) (p0 : Nat) (x1 : Int32) (y0 : Int32) (h : AH) : Run sc n_X10_letterAt 34 [aD p0, aI x1] none [aI y0] h = some (.inl (some (aI y0)), h) := by
  exact q_ret (c := (some (aI y0), h)) mt_X10_letterAt dX10_letterAt_34 rfl
theorem e_X10_letterAt_5 (sc : SC) (p0 : Nat) (x1 : Int32) (y0 : Int32) (y1 : Int32) (h : AH) : Run sc n_X10_letterAt 5 [aD p0, aI x1] none [aI y1, aI y0] h = Run sc n_X10_letterAt (if y1 ≤ y0 then 33 else 8) [aD p0, aI x1] none [] h := by
  exact q_icmp mt_X10_letterAt dX10_letterAt_5 (fun _ _ _ _ => rfl) rfl
theorem e_X10_letterAt_12 (sc : SC) (p0 : Nat) (x1 : Int32) (q0 : Nat) (h : AH) : Run sc n_X10_letterAt 12 [aD p0, aI x1] none [aD q0] h = bO (ldI sc h (fun t => t == 1) (aD q0) x1) (fun z => Run sc n_X10_letterAt 14 [aD p0, aI x1] none [aI z] h) := by
  refine (s_go mt_X10_letterAt dX10_letterAt_12 rfl).trans ?_
  exact q_caload mt_X10_letterAt dX10_letterAt_13
theorem e_X10_letterAt_28 (sc : SC) (p0 : Nat) (x1 : Int32) (q0 : Nat) (h : AH) : Run sc n_X10_letterAt 28 [aD p0, aI x1] none [aD q0] h = bO (ldI sc h (fun t => t == 1) (aD q0) x1) (fun z => Run sc n_X10_letterAt 30 [aD p0, aI x1] none [aI z] h) := by
  refine (s_go mt_X10_letterAt dX10_letterAt_28 rfl).trans ?_
  exact q_caload mt_X10_letterAt dX10_letterAt_29
theorem e_X10_letterAt_14 (sc : SC) (p0 : Nat) (x1 : Int32) (y0 : Int32) (h : AH) : Run sc n_X10_letterAt 14 [aD p0, aI x1] none [aI y0] h = bC (Call sc n_X10_isIn [aI y0, aI (nI 97), aI (nI 122)] h) (fun v z => Run sc n_X10_letterAt 21 [aD p0, aI x1] none (v.toList ++ []) z) (fun E z => some (.inr E, z)) := by
  refine (s_go mt_X10_letterAt dX10_letterAt_14 rfl).trans ?_
  refine (s_go mt_X10_letterAt dX10_letterAt_16 rfl).trans ?_
  exact q_cS mt_X10_letterAt dX10_letterAt_18 rfl mt_X10_isIn rfl rfl
theorem e_X10_letterAt_30 (sc : SC) (p0 : Nat) (x1 : Int32) (y0 : Int32) (h : AH) : Run sc n_X10_letterAt 30 [aD p0, aI x1] none [aI y0] h = Run sc n_X10_letterAt 34 [aD p0, aI x1] none [aI y0] h := by
  refine (s_go mt_X10_letterAt dX10_letterAt_30 rfl).trans ?_
  exact rfl
theorem e_X10_letterAt_21 (sc : SC) (p0 : Nat) (x1 : Int32) (y0 : Int32) (h : AH) : Run sc n_X10_letterAt 21 [aD p0, aI x1] none [aI y0] h = Run sc n_X10_letterAt (if y0 = 0 then 33 else 24) [aD p0, aI x1] none [] h := by
  exact q_if mt_X10_letterAt dX10_letterAt_21 (fun _ _ _ _ => rfl) rfl
/-! BranchSlotFillerModel.isName(IIIIII)Z -/
theorem e_X10_isName_0 (sc : SC) (p0 : Nat) (x1 : Int32) (x2 : Int32) (x3 : Int32) (x4 : Int32) (x5 : Int32) (x6 : Int32) (v7 : AV) (h : AH) : Run sc n_X10_isName 0 [aD p0, aI x1, aI x2, aI x3, aI x4, aI x5, aI x6, v7] none [] h = bI (rOK sc h (aD p0) 12 = true) (bC (Call sc n_X10_letterAt [aD p0, aI x1] h) (fun v z => Run sc n_X10_isName 5 [aD p0, aI x1, aI x2, aI x3, aI x4, aI x5, aI x6, v7] none (v.toList ++ []) z) (fun E z => some (.inr E, z))) := by
  refine (s_go mt_X10_isName dX10_isName_0 rfl).trans ?_
  refine (s_go mt_X10_isName dX10_isName_1 rfl).trans ?_
  exact q_cV mt_X10_isName dX10_isName_2 rfl mt_X10_letterAt rfl rfl rfl
theorem e_X10_isName_9 (sc : SC) (p0 : Nat) (x1 : Int32) (x2 : Int32) (x3 : Int32) (x4 : Int32) (x5 : Int32) (x6 : Int32) (v7 : AV) (h : AH) : Run sc n_X10_isName 9 [aD p0, aI x1, aI x2, aI x3, aI x4, aI x5, aI x6, v7] none [] h = bI (rOK sc h (aD p0) 12 = true) (bC (Call sc n_X10_letterAt [aD p0, aI (x1 + (nI 1))] h) (fun v z => Run sc n_X10_isName 16 [aD p0, aI x1, aI x2, aI x3, aI x4, aI x5, aI x6, v7] none (v.toList ++ []) z) (fun E z => some (.inr E, z))) := by
  refine (s_go mt_X10_isName dX10_isName_9 rfl).trans ?_
  refine (s_go mt_X10_isName dX10_isName_10 rfl).trans ?_
  refine (s_go mt_X10_isName dX10_isName_11 rfl).trans ?_
  refine (s_go mt_X10_isName dX10_isName_12 rfl).trans ?_
  exact q_cV mt_X10_isName dX10_isName_13 rfl mt_X10_letterAt rfl rfl rfl
theorem e_X10_isName_20 (sc : SC) (p0 : Nat) (x1 : Int32) (x2 : Int32) (x3 : Int32) (x4 : Int32) (x5 : Int32) (x6 : Int32) (v7 : AV) (h : AH) : Run sc n_X10_isName 20 [aD p0, aI x1, aI x2, aI x3, aI x4, aI x5, aI x6, v7] none [] h = bI (rOK sc h (aD p0) 12 = true) (bC (Call sc n_X10_letterAt [aD p0, aI (x1 + (nI 2))] h) (fun v z => Run sc n_X10_isName 27 [aD p0, aI x1, aI x2, aI x3, aI x4, aI x5, aI x6, v7] none (v.toList ++ []) z) (fun E z => some (.inr E, z))) := by
  refine (s_go mt_X10_isName dX10_isName_20 rfl).trans ?_
  refine (s_go mt_X10_isName dX10_isName_21 rfl).trans ?_
  refine (s_go mt_X10_isName dX10_isName_22 rfl).trans ?_
  refine (s_go mt_X10_isName dX10_isName_23 rfl).trans ?_
  exact q_cV mt_X10_isName dX10_isName_24 rfl mt_X10_letterAt rfl rfl rfl
theorem e_X10_isName_32 (sc : SC) (p0 : Nat) (x1 : Int32) (x2 : Int32) (x3 : Int32) (x4 : Int32) (x5 : Int32) (x6 : Int32) (v7 : AV) (h : AH) : Run sc n_X10_isName 32 [aD p0, aI x1, aI x2, aI x3, aI x4, aI x5, aI x6, v7] none [] h = Run sc n_X10_isName 37 [aD p0, aI x1, aI x2, aI x3, aI x4, aI x5, aI x6, v7] none [aI (nI 1)] h := by
  refine (s_go mt_X10_isName dX10_isName_32 rfl).trans ?_
  refine (s_go mt_X10_isName dX10_isName_33 rfl).trans ?_
  exact rfl
theorem e_X10_isName_36 (sc : SC) (p0 : Nat) (x1 : Int32) (x2 : Int32) (x3 : Int32) (x4 : Int32) (x5 : Int32) (x6 : Int32) (v7 : AV) (h : AH) : Run sc n_X10_isName 36 [aD p0, aI x1, aI x2, aI x3, aI x4, aI x5, aI x6, v7] none [] h = Run sc n_X10_isName 37 [aD p0, aI x1, aI x2, aI x3, aI x4, aI x5, aI x6, v7] none [aI (nI 0)] h := by
  refine (s_go mt_X10_isName dX10_isName_36 rfl).trans ?_
  exact rfl
theorem e_X10_isName_37 (sc : SC) (p0 : Nat) (x1 : Int32) (x2 : Int32) (x3 : Int32) (x4 : Int32) (x5 : Int32) (x6 : Int32) (v7 : AV) (y0 : Int32) (h : AH) : Run sc n_X10_isName 37 [aD p0, aI x1, aI x2, aI x3, aI x4, aI x5, aI x6, v7] none [aI y0] h = Run sc n_X10_isName (if y0 = 0 then 65 else 44) [aD p0, aI x1, aI x2, aI x3, aI x4, aI x5, aI x6, aI y0] none [] h := by
  refine (s_go mt_X10_isName dX10_isName_37 rfl).trans ?_
  refine (s_go mt_X10_isName dX10_isName_39 rfl).trans ?_
  exact q_if mt_X10_isName dX10_isName_41 (fun _ _ _ _ => rfl) rfl
theorem e_X10_isName_44 (sc : SC) (p0 : Nat) (x1 : Int32) (x2 : Int32) (x3 : Int32) (x4 : Int32) (x5 : Int32) (x6 : Int32) (x7 : Int32) (h : AH) : Run sc n_X10_isName 44 [aD p0, aI x1, aI x2, aI x3, aI x4, aI x5, aI x6, aI x7] none [] h = Run sc n_X10_isName (if x4 = 0 then 61 else 49) [aD p0, aI x1, aI x2, aI x3, aI x4, aI x5, aI x6, aI x7] none [] h := by
  refine (s_go mt_X10_isName dX10_isName_44 rfl).trans ?_
  exact q_if mt_X10_isName dX10_isName_46 (fun _ _ _ _ => rfl) rfl
theorem e_X10_isName_49 (sc : SC) (p0 : Nat) (x1 : Int32) (x2 : Int32) (x3 : Int32) (x4 : Int32) (x5 : Int32) (x6 : Int32) (x7 : Int32) (h : AH) : Run sc n_X10_isName 49 [aD p0, aI x1, aI x2, aI x3, aI x4, aI x5, aI x6, aI x7] none [] h = bI (rOK sc h (aD p0) 12 = true) (bC (Call sc n_X10_letterAt [aD p0, aI (x1 + (nI 3))] h) (fun v z => Run sc n_X10_isName 56 [aD p0, aI x1, aI x2, aI x3, aI x4, aI x5, aI x6, aI x7] none (v.toList ++ []) z) (fun E z => some (.inr E, z))) := by
  refine (s_go mt_X10_isName dX10_isName_49 rfl).trans ?_
  refine (s_go mt_X10_isName dX10_isName_50 rfl).trans ?_
  refine (s_go mt_X10_isName dX10_isName_51 rfl).trans ?_
  refine (s_go mt_X10_isName dX10_isName_52 rfl).trans ?_
  exact q_cV mt_X10_isName dX10_isName_53 rfl mt_X10_letterAt rfl rfl rfl
theorem e_X10_isName_61 (sc : SC) (p0 : Nat) (x1 : Int32) (x2 : Int32) (x3 : Int32) (x4 : Int32) (x5 : Int32) (x6 : Int32) (x7 : Int32) (h : AH) : Run sc n_X10_isName 61 [aD p0, aI x1, aI x2, aI x3, aI x4, aI x5, aI x6, aI x7] none [] h = Run sc n_X10_isName 66 [aD p0, aI x1, aI x2, aI x3, aI x4, aI x5, aI x6, aI x7] none [aI (nI 1)] h := by
  refine (s_go mt_X10_isName dX10_isName_61 rfl).trans ?_
  refine (s_go mt_X10_isName dX10_isName_62 rfl).trans ?_
  exact rfl
theorem e_X10_isName_65 (sc : SC) (p0 : Nat) (x1 : Int32) (x2 : Int32) (x3 : Int32) (x4 : Int32) (x5 : Int32) (x6 : Int32) (x7 : Int32) (h : AH) : Run sc n_X10_isName 65 [aD p0, aI x1, aI x2, aI x3, aI x4, aI x5, aI x6, aI x7] none [] h = Run sc n_X10_isName 66 [aD p0, aI x1, aI x2, aI x3, aI x4, aI x5, aI x6, aI x7] none [aI (nI 0)] h := by
  refine (s_go mt_X10_isName dX10_isName_65 rfl).trans ?_
  exact rfl
theorem e_X10_isName_66 (sc : SC) (p0 : Nat) (x1 : Int32) (x2 : Int32) (x3 : Int32) (x4 : Int32) (x5 : Int32) (x6 : Int32) (x7 : Int32) (y0 : Int32) (h : AH) : Run sc n_X10_isName 66 [aD p0, aI x1, aI x2, aI x3, aI x4, aI x5, aI x6, aI x7] none [aI y0] h = Run sc n_X10_isName (if y0 = 0 then 114 else 73) [aD p0, aI x1, aI x2, aI x3, aI x4, aI x5, aI x6, aI y0] none [] h := by
  refine (s_go mt_X10_isName dX10_isName_66 rfl).trans ?_
  refine (s_go mt_X10_isName dX10_isName_68 rfl).trans ?_
  exact q_if mt_X10_isName dX10_isName_70 (fun _ _ _ _ => rfl) rfl
theorem e_X10_isName_73 (sc : SC) (p0 : Nat) (x1 : Int32) (x2 : Int32) (x3 : Int32) (x4 : Int32) (x5 : Int32) (x6 : Int32) (x7 : Int32) (h : AH) : Run sc n_X10_isName 73 [aD p0, aI x1, aI x2, aI x3, aI x4, aI x5, aI x6, aI x7] none [] h = Run sc n_X10_isName (if x4 = 0 then 110 else 78) [aD p0, aI x1, aI x2, aI x3, aI x4, aI x5, aI x6, aI x7] none [] h := by
  refine (s_go mt_X10_isName dX10_isName_73 rfl).trans ?_
  exact q_if mt_X10_isName dX10_isName_75 (fun _ _ _ _ => rfl) rfl
theorem e_X10_isName_78 (sc : SC) (p0 : Nat) (x1 : Int32) (x2 : Int32) (x3 : Int32) (x4 : Int32) (x5 : Int32) (x6 : Int32) (x7 : Int32) (h : AH) : Run sc n_X10_isName 78 [aD p0, aI x1, aI x2, aI x3, aI x4, aI x5, aI x6, aI x7] none [] h = Run sc n_X10_isName (if x5 = 0 then 110 else 83) [aD p0, aI x1, aI x2, aI x3, aI x4, aI x5, aI x6, aI x7] none [] h := by
  refine (s_go mt_X10_isName dX10_isName_78 rfl).trans ?_
  exact q_if mt_X10_isName dX10_isName_80 (fun _ _ _ _ => rfl) rfl
theorem e_X10_isName_83 (sc : SC) (p0 : Nat) (x1 : Int32) (x2 : Int32) (x3 : Int32) (x4 : Int32) (x5 : Int32) (x6 : Int32) (x7 : Int32) (h : AH) : Run sc n_X10_isName 83 [aD p0, aI x1, aI x2, aI x3, aI x4, aI x5, aI x6, aI x7] none [] h = bI (rOK sc h (aD p0) 12 = true) (bC (Call sc n_X10_letterAt [aD p0, aI (x1 + (nI 4))] h) (fun v z => Run sc n_X10_isName 90 [aD p0, aI x1, aI x2, aI x3, aI x4, aI x5, aI x6, aI x7] none (v.toList ++ []) z) (fun E z => some (.inr E, z))) := by
  refine (s_go mt_X10_isName dX10_isName_83 rfl).trans ?_
  refine (s_go mt_X10_isName dX10_isName_84 rfl).trans ?_
  refine (s_go mt_X10_isName dX10_isName_85 rfl).trans ?_
  refine (s_go mt_X10_isName dX10_isName_86 rfl).trans ?_
  exact q_cV mt_X10_isName dX10_isName_87 rfl mt_X10_letterAt rfl rfl rfl
theorem e_X10_isName_95 (sc : SC) (p0 : Nat) (x1 : Int32) (x2 : Int32) (x3 : Int32) (x4 : Int32) (x5 : Int32) (x6 : Int32) (x7 : Int32) (h : AH) : Run sc n_X10_isName 95 [aD p0, aI x1, aI x2, aI x3, aI x4, aI x5, aI x6, aI x7] none [] h = Run sc n_X10_isName (if x6 = 0 then 110 else 100) [aD p0, aI x1, aI x2, aI x3, aI x4, aI x5, aI x6, aI x7] none [] h := by
  refine (s_go mt_X10_isName dX10_isName_95 rfl).trans ?_
  exact q_if mt_X10_isName dX10_isName_97 (fun _ _ _ _ => rfl) rfl
theorem e_X10_isName_100 (sc : SC) (p0 : Nat) (x1 : Int32) (x2 : Int32) (x3 : Int32) (x4 : Int32) (x5 : Int32) (x6 : Int32) (x7 : Int32) (h : AH) : Run sc n_X10_isName 100 [aD p0, aI x1, aI x2, aI x3, aI x4, aI x5, aI x6, aI x7] none [] h = bI (rOK sc h (aD p0) 12 = true) (bC (Call sc n_X10_letterAt [aD p0, aI (x1 + (nI 5))] h) (fun v z => Run sc n_X10_isName 107 [aD p0, aI x1, aI x2, aI x3, aI x4, aI x5, aI x6, aI x7] none (v.toList ++ []) z) (fun E z => some (.inr E, z))) := by
  refine (s_go mt_X10_isName dX10_isName_100 rfl).trans ?_
  refine (s_go mt_X10_isName dX10_isName_101 rfl).trans ?_
  refine (s_go mt_X10_isName dX10_isName_102 rfl).trans ?_
  refine (s_go mt_X10_isName dX10_isName_103 rfl).trans ?_
  exact q_cV mt_X10_isName dX10_isName_104 rfl mt_X10_letterAt rfl rfl rfl
theorem e_X10_isName_110 (sc : SC) (p0 : Nat) (x1 : Int32) (x2 : Int32) (x3 : Int32) (x4 : Int32) (x5 : Int32) (x6 : Int32) (x7 : Int32) (h : AH) : Run sc n_X10_isName 110 [aD p0, aI x1, aI x2, aI x3, aI x4, aI x5, aI x6, aI x7] none [] h = Run sc n_X10_isName 115 [aD p0, aI x1, aI x2, aI x3, aI x4, aI x5, aI x6, aI x7] none [aI (nI 1)] h := by
  refine (s_go mt_X10_isName dX10_isName_110 rfl).trans ?_
  refine (s_go mt_X10_isName dX10_isName_111 rfl).trans ?_
  exact rfl
theorem e_X10_isName_114 (sc : SC) (p0 : Nat) (x1 : Int32) (x2 : Int32) (x3 : Int32) (x4 : Int32) (x5 : Int32) (x6 : Int32) (x7 : Int32) (h : AH) : Run sc n_X10_isName 114 [aD p0, aI x1, aI x2, aI x3, aI x4, aI x5, aI x6, aI x7] none [] h = Run sc n_X10_isName 115 [aD p0, aI x1, aI x2, aI x3, aI x4, aI x5, aI x6, aI x7] none [aI (nI 0)] h := by
  refine (s_go mt_X10_isName dX10_isName_114 rfl).trans ?_
  exact rfl
theorem e_X10_isName_115 (sc : SC) (p0 : Nat) (x1 : Int32) (x2 : Int32) (x3 : Int32) (x4 : Int32) (x5 : Int32) (x6 : Int32) (x7 : Int32) (y0 : Int32) (h : AH) : Run sc n_X10_isName 115 [aD p0, aI x1, aI x2, aI x3, aI x4, aI x5, aI x6, aI x7] none [aI y0] h = bI (retK (some FieldType.boolean) y0 = true) (some (.inl (some (aI y0)), h)) := by
  exact q_iret mt_X10_isName dX10_isName_115
theorem e_X10_isName_5 (sc : SC) (p0 : Nat) (x1 : Int32) (x2 : Int32) (x3 : Int32) (x4 : Int32) (x5 : Int32) (x6 : Int32) (v7 : AV) (y0 : Int32) (h : AH) : Run sc n_X10_isName 5 [aD p0, aI x1, aI x2, aI x3, aI x4, aI x5, aI x6, v7] none [aI y0] h = Run sc n_X10_isName (if ¬ y0 = x2 then 36 else 9) [aD p0, aI x1, aI x2, aI x3, aI x4, aI x5, aI x6, v7] none [] h := by
  refine (s_go mt_X10_isName dX10_isName_5 rfl).trans ?_
  exact q_icmp mt_X10_isName dX10_isName_6 (fun _ _ _ _ => rfl) rfl
theorem e_X10_isName_16 (sc : SC) (p0 : Nat) (x1 : Int32) (x2 : Int32) (x3 : Int32) (x4 : Int32) (x5 : Int32) (x6 : Int32) (v7 : AV) (y0 : Int32) (h : AH) : Run sc n_X10_isName 16 [aD p0, aI x1, aI x2, aI x3, aI x4, aI x5, aI x6, v7] none [aI y0] h = Run sc n_X10_isName (if ¬ y0 = x3 then 36 else 20) [aD p0, aI x1, aI x2, aI x3, aI x4, aI x5, aI x6, v7] none [] h := by
  refine (s_go mt_X10_isName dX10_isName_16 rfl).trans ?_
  exact q_icmp mt_X10_isName dX10_isName_17 (fun _ _ _ _ => rfl) rfl
theorem e_X10_isName_27 (sc : SC) (p0 : Nat) (x1 : Int32) (x2 : Int32) (x3 : Int32) (x4 : Int32) (x5 : Int32) (x6 : Int32) (v7 : AV) (y0 : Int32) (h : AH) : Run sc n_X10_isName 27 [aD p0, aI x1, aI x2, aI x3, aI x4, aI x5, aI x6, v7] none [aI y0] h = Run sc n_X10_isName (if ¬ y0 = x4 then 36 else 32) [aD p0, aI x1, aI x2, aI x3, aI x4, aI x5, aI x6, v7] none [] h := by
  refine (s_go mt_X10_isName dX10_isName_27 rfl).trans ?_
  exact q_icmp mt_X10_isName dX10_isName_29 (fun _ _ _ _ => rfl) rfl
theorem e_X10_isName_56 (sc : SC) (p0 : Nat) (x1 : Int32) (x2 : Int32) (x3 : Int32) (x4 : Int32) (x5 : Int32) (x6 : Int32) (x7 : Int32) (y0 : Int32) (h : AH) : Run sc n_X10_isName 56 [aD p0, aI x1, aI x2, aI x3, aI x4, aI x5, aI x6, aI x7] none [aI y0] h = Run sc n_X10_isName (if ¬ y0 = x5 then 65 else 61) [aD p0, aI x1, aI x2, aI x3, aI x4, aI x5, aI x6, aI x7] none [] h := by
  refine (s_go mt_X10_isName dX10_isName_56 rfl).trans ?_
  exact q_icmp mt_X10_isName dX10_isName_58 (fun _ _ _ _ => rfl) rfl
theorem e_X10_isName_90 (sc : SC) (p0 : Nat) (x1 : Int32) (x2 : Int32) (x3 : Int32) (x4 : Int32) (x5 : Int32) (x6 : Int32) (x7 : Int32) (y0 : Int32) (h : AH) : Run sc n_X10_isName 90 [aD p0, aI x1, aI x2, aI x3, aI x4, aI x5, aI x6, aI x7] none [aI y0] h = Run sc n_X10_isName (if ¬ y0 = x6 then 114 else 95) [aD p0, aI x1, aI x2, aI x3, aI x4, aI x5, aI x6, aI x7] none [] h := by
  refine (s_go mt_X10_isName dX10_isName_90 rfl).trans ?_
  exact q_icmp mt_X10_isName dX10_isName_92 (fun _ _ _ _ => rfl) rfl
theorem e_X10_isName_107 (sc : SC) (p0 : Nat) (x1 : Int32) (x2 : Int32) (x3 : Int32) (x4 : Int32) (x5 : Int32) (x6 : Int32) (x7 : Int32) (y0 : Int32) (h : AH) : Run sc n_X10_isName 107 [aD p0, aI x1, aI x2, aI x3, aI x4, aI x5, aI x6, aI x7] none [aI y0] h = Run sc n_X10_isName (if ¬ y0 = 0 then 114 else 110) [aD p0, aI x1, aI x2, aI x3, aI x4, aI x5, aI x6, aI x7] none [] h := by
  exact q_if mt_X10_isName dX10_isName_107 (fun _ _ _ _ => rfl) rfl
/-! BranchSlotFillerModel.kindAt(I)I -/
theorem e_X10_kindAt_0 (sc : SC) (p0 : Nat) (x1 : Int32) (h : AH) : Run sc n_X10_kindAt 0 [aD p0, aI x1] none [] h = bI (rOK sc h (aD p0) 12 = true) (bC (Call sc n_X10_isName [aD p0, aI x1, aI (nI 110), aI (nI 111), aI (nI 112), aI (nI 0), aI (nI 0)] h) (fun v z => Run sc n_X10_kindAt 13 [aD p0, aI x1] none (v.toList ++ []) z) (fun E z => some (.inr E, z))) := by
  refine (s_go mt_X10_kindAt dX10_kindAt_0 rfl).trans ?_
  refine (s_go mt_X10_kindAt dX10_kindAt_1 rfl).trans ?_
  refine (s_go mt_X10_kindAt dX10_kindAt_2 rfl).trans ?_
  refine (s_go mt_X10_kindAt dX10_kindAt_4 rfl).trans ?_
  refine (s_go mt_X10_kindAt dX10_kindAt_6 rfl).trans ?_
  refine (s_go mt_X10_kindAt dX10_kindAt_8 rfl).trans ?_
  refine (s_go mt_X10_kindAt dX10_kindAt_9 rfl).trans ?_
  exact q_cV mt_X10_kindAt dX10_kindAt_10 rfl mt_X10_isName rfl rfl rfl
theorem e_X10_kindAt_16 (sc : SC) (p0 : Nat) (x1 : Int32) (h : AH) : Run sc n_X10_kindAt 16 [aD p0, aI x1] none [] h = some (.inl (some (aI (nI 0))), h) := by
  refine (s_go mt_X10_kindAt dX10_kindAt_16 rfl).trans ?_
  exact q_ret (c := (some (aI (nI 0)), h)) mt_X10_kindAt dX10_kindAt_17 rfl
theorem e_X10_kindAt_18 (sc : SC) (p0 : Nat) (x1 : Int32) (h : AH) : Run sc n_X10_kindAt 18 [aD p0, aI x1] none [] h = bI (rOK sc h (aD p0) 12 = true) (bC (Call sc n_X10_isName [aD p0, aI x1, aI (nI 115), aI (nI 101), aI (nI 116), aI (nI 0), aI (nI 0)] h) (fun v z => Run sc n_X10_kindAt 31 [aD p0, aI x1] none (v.toList ++ []) z) (fun E z => some (.inr E, z))) := by
  refine (s_go mt_X10_kindAt dX10_kindAt_18 rfl).trans ?_
  refine (s_go mt_X10_kindAt dX10_kindAt_19 rfl).trans ?_
  refine (s_go mt_X10_kindAt dX10_kindAt_20 rfl).trans ?_
  refine (s_go mt_X10_kindAt dX10_kindAt_22 rfl).trans ?_
  refine (s_go mt_X10_kindAt dX10_kindAt_24 rfl).trans ?_
  refine (s_go mt_X10_kindAt dX10_kindAt_26 rfl).trans ?_
  refine (s_go mt_X10_kindAt dX10_kindAt_27 rfl).trans ?_
  exact q_cV mt_X10_kindAt dX10_kindAt_28 rfl mt_X10_isName rfl rfl rfl
theorem e_X10_kindAt_34 (sc : SC) (p0 : Nat) (x1 : Int32) (h : AH) : Run sc n_X10_kindAt 34 [aD p0, aI x1] none [] h = some (.inl (some (aI (nI 1))), h) := by
  refine (s_go mt_X10_kindAt dX10_kindAt_34 rfl).trans ?_
  exact q_ret (c := (some (aI (nI 1)), h)) mt_X10_kindAt dX10_kindAt_35 rfl
theorem e_X10_kindAt_36 (sc : SC) (p0 : Nat) (x1 : Int32) (h : AH) : Run sc n_X10_kindAt 36 [aD p0, aI x1] none [] h = bI (rOK sc h (aD p0) 12 = true) (bC (Call sc n_X10_isName [aD p0, aI x1, aI (nI 99), aI (nI 111), aI (nI 112), aI (nI 121), aI (nI 0)] h) (fun v z => Run sc n_X10_kindAt 50 [aD p0, aI x1] none (v.toList ++ []) z) (fun E z => some (.inr E, z))) := by
  refine (s_go mt_X10_kindAt dX10_kindAt_36 rfl).trans ?_
  refine (s_go mt_X10_kindAt dX10_kindAt_37 rfl).trans ?_
  refine (s_go mt_X10_kindAt dX10_kindAt_38 rfl).trans ?_
  refine (s_go mt_X10_kindAt dX10_kindAt_40 rfl).trans ?_
  refine (s_go mt_X10_kindAt dX10_kindAt_42 rfl).trans ?_
  refine (s_go mt_X10_kindAt dX10_kindAt_44 rfl).trans ?_
  refine (s_go mt_X10_kindAt dX10_kindAt_46 rfl).trans ?_
  exact q_cV mt_X10_kindAt dX10_kindAt_47 rfl mt_X10_isName rfl rfl rfl
theorem e_X10_kindAt_53 (sc : SC) (p0 : Nat) (x1 : Int32) (h : AH) : Run sc n_X10_kindAt 53 [aD p0, aI x1] none [] h = some (.inl (some (aI (nI 2))), h) := by
  refine (s_go mt_X10_kindAt dX10_kindAt_53 rfl).trans ?_
  exact q_ret (c := (some (aI (nI 2)), h)) mt_X10_kindAt dX10_kindAt_54 rfl
theorem e_X10_kindAt_55 (sc : SC) (p0 : Nat) (x1 : Int32) (h : AH) : Run sc n_X10_kindAt 55 [aD p0, aI x1] none [] h = bI (rOK sc h (aD p0) 12 = true) (bC (Call sc n_X10_isName [aD p0, aI x1, aI (nI 97), aI (nI 100), aI (nI 100), aI (nI 0), aI (nI 0)] h) (fun v z => Run sc n_X10_kindAt 68 [aD p0, aI x1] none (v.toList ++ []) z) (fun E z => some (.inr E, z))) := by
  refine (s_go mt_X10_kindAt dX10_kindAt_55 rfl).trans ?_
  refine (s_go mt_X10_kindAt dX10_kindAt_56 rfl).trans ?_
  refine (s_go mt_X10_kindAt dX10_kindAt_57 rfl).trans ?_
  refine (s_go mt_X10_kindAt dX10_kindAt_59 rfl).trans ?_
  refine (s_go mt_X10_kindAt dX10_kindAt_61 rfl).trans ?_
  refine (s_go mt_X10_kindAt dX10_kindAt_63 rfl).trans ?_
  refine (s_go mt_X10_kindAt dX10_kindAt_64 rfl).trans ?_
  exact q_cV mt_X10_kindAt dX10_kindAt_65 rfl mt_X10_isName rfl rfl rfl
theorem e_X10_kindAt_71 (sc : SC) (p0 : Nat) (x1 : Int32) (h : AH) : Run sc n_X10_kindAt 71 [aD p0, aI x1] none [] h = some (.inl (some (aI (nI 3))), h) := by
  refine (s_go mt_X10_kindAt dX10_kindAt_71 rfl).trans ?_
  exact q_ret (c := (some (aI (nI 3)), h)) mt_X10_kindAt dX10_kindAt_72 rfl
theorem e_X10_kindAt_73 (sc : SC) (p0 : Nat) (x1 : Int32) (h : AH) : Run sc n_X10_kindAt 73 [aD p0, aI x1] none [] h = bI (rOK sc h (aD p0) 12 = true) (bC (Call sc n_X10_isName [aD p0, aI x1, aI (nI 115), aI (nI 117), aI (nI 98), aI (nI 0), aI (nI 0)] h) (fun v z => Run sc n_X10_kindAt 86 [aD p0, aI x1] none (v.toList ++ []) z) (fun E z => some (.inr E, z))) := by
  refine (s_go mt_X10_kindAt dX10_kindAt_73 rfl).trans ?_
  refine (s_go mt_X10_kindAt dX10_kindAt_74 rfl).trans ?_
  refine (s_go mt_X10_kindAt dX10_kindAt_75 rfl).trans ?_
  refine (s_go mt_X10_kindAt dX10_kindAt_77 rfl).trans ?_
  refine (s_go mt_X10_kindAt dX10_kindAt_79 rfl).trans ?_
  refine (s_go mt_X10_kindAt dX10_kindAt_81 rfl).trans ?_
  refine (s_go mt_X10_kindAt dX10_kindAt_82 rfl).trans ?_
  exact q_cV mt_X10_kindAt dX10_kindAt_83 rfl mt_X10_isName rfl rfl rfl
theorem e_X10_kindAt_89 (sc : SC) (p0 : Nat) (x1 : Int32) (h : AH) : Run sc n_X10_kindAt 89 [aD p0, aI x1] none [] h = some (.inl (some (aI (nI 4))), h) := by
  refine (s_go mt_X10_kindAt dX10_kindAt_89 rfl).trans ?_
  exact q_ret (c := (some (aI (nI 4)), h)) mt_X10_kindAt dX10_kindAt_90 rfl
theorem e_X10_kindAt_91 (sc : SC) (p0 : Nat) (x1 : Int32) (h : AH) : Run sc n_X10_kindAt 91 [aD p0, aI x1] none [] h = bI (rOK sc h (aD p0) 12 = true) (bC (Call sc n_X10_isName [aD p0, aI x1, aI (nI 108), aI (nI 111), aI (nI 97), aI (nI 100), aI (nI 0)] h) (fun v z => Run sc n_X10_kindAt 105 [aD p0, aI x1] none (v.toList ++ []) z) (fun E z => some (.inr E, z))) := by
  refine (s_go mt_X10_kindAt dX10_kindAt_91 rfl).trans ?_
  refine (s_go mt_X10_kindAt dX10_kindAt_92 rfl).trans ?_
  refine (s_go mt_X10_kindAt dX10_kindAt_93 rfl).trans ?_
  refine (s_go mt_X10_kindAt dX10_kindAt_95 rfl).trans ?_
  refine (s_go mt_X10_kindAt dX10_kindAt_97 rfl).trans ?_
  refine (s_go mt_X10_kindAt dX10_kindAt_99 rfl).trans ?_
  refine (s_go mt_X10_kindAt dX10_kindAt_101 rfl).trans ?_
  exact q_cV mt_X10_kindAt dX10_kindAt_102 rfl mt_X10_isName rfl rfl rfl
theorem e_X10_kindAt_108 (sc : SC) (p0 : Nat) (x1 : Int32) (h : AH) : Run sc n_X10_kindAt 108 [aD p0, aI x1] none [] h = some (.inl (some (aI (nI 5))), h) := by
  refine (s_go mt_X10_kindAt dX10_kindAt_108 rfl).trans ?_
  exact q_ret (c := (some (aI (nI 5)), h)) mt_X10_kindAt dX10_kindAt_109 rfl
theorem e_X10_kindAt_110 (sc : SC) (p0 : Nat) (x1 : Int32) (h : AH) : Run sc n_X10_kindAt 110 [aD p0, aI x1] none [] h = bI (rOK sc h (aD p0) 12 = true) (bC (Call sc n_X10_isName [aD p0, aI x1, aI (nI 115), aI (nI 116), aI (nI 111), aI (nI 114), aI (nI 101)] h) (fun v z => Run sc n_X10_kindAt 125 [aD p0, aI x1] none (v.toList ++ []) z) (fun E z => some (.inr E, z))) := by
  refine (s_go mt_X10_kindAt dX10_kindAt_110 rfl).trans ?_
  refine (s_go mt_X10_kindAt dX10_kindAt_111 rfl).trans ?_
  refine (s_go mt_X10_kindAt dX10_kindAt_112 rfl).trans ?_
  refine (s_go mt_X10_kindAt dX10_kindAt_114 rfl).trans ?_
  refine (s_go mt_X10_kindAt dX10_kindAt_116 rfl).trans ?_
  refine (s_go mt_X10_kindAt dX10_kindAt_118 rfl).trans ?_
  refine (s_go mt_X10_kindAt dX10_kindAt_120 rfl).trans ?_
  exact q_cV mt_X10_kindAt dX10_kindAt_122 rfl mt_X10_isName rfl rfl rfl
theorem e_X10_kindAt_128 (sc : SC) (p0 : Nat) (x1 : Int32) (h : AH) : Run sc n_X10_kindAt 128 [aD p0, aI x1] none [] h = some (.inl (some (aI (nI 6))), h) := by
  refine (s_go mt_X10_kindAt dX10_kindAt_128 rfl).trans ?_
  exact q_ret (c := (some (aI (nI 6)), h)) mt_X10_kindAt dX10_kindAt_130 rfl
theorem e_X10_kindAt_131 (sc : SC) (p0 : Nat) (x1 : Int32) (h : AH) : Run sc n_X10_kindAt 131 [aD p0, aI x1] none [] h = bI (rOK sc h (aD p0) 12 = true) (bC (Call sc n_X10_isName [aD p0, aI x1, aI (nI 111), aI (nI 117), aI (nI 116), aI (nI 0), aI (nI 0)] h) (fun v z => Run sc n_X10_kindAt 144 [aD p0, aI x1] none (v.toList ++ []) z) (fun E z => some (.inr E, z))) := by
  refine (s_go mt_X10_kindAt dX10_kindAt_131 rfl).trans ?_
  refine (s_go mt_X10_kindAt dX10_kindAt_132 rfl).trans ?_
  refine (s_go mt_X10_kindAt dX10_kindAt_133 rfl).trans ?_
  refine (s_go mt_X10_kindAt dX10_kindAt_135 rfl).trans ?_
  refine (s_go mt_X10_kindAt dX10_kindAt_137 rfl).trans ?_
  refine (s_go mt_X10_kindAt dX10_kindAt_139 rfl).trans ?_
  refine (s_go mt_X10_kindAt dX10_kindAt_140 rfl).trans ?_
  exact q_cV mt_X10_kindAt dX10_kindAt_141 rfl mt_X10_isName rfl rfl rfl
theorem e_X10_kindAt_147 (sc : SC) (p0 : Nat) (x1 : Int32) (h : AH) : Run sc n_X10_kindAt 147 [aD p0, aI x1] none [] h = some (.inl (some (aI (nI 7))), h) := by
  refine (s_go mt_X10_kindAt dX10_kindAt_147 rfl).trans ?_
  exact q_ret (c := (some (aI (nI 7)), h)) mt_X10_kindAt dX10_kindAt_149 rfl
theorem e_X10_kindAt_150 (sc : SC) (p0 : Nat) (x1 : Int32) (h : AH) : Run sc n_X10_kindAt 150 [aD p0, aI x1] none [] h = bI (rOK sc h (aD p0) 12 = true) (bC (Call sc n_X10_isName [aD p0, aI x1, aI (nI 101), aI (nI 113), aI (nI 117), aI (nI 97), aI (nI 108)] h) (fun v z => Run sc n_X10_kindAt 165 [aD p0, aI x1] none (v.toList ++ []) z) (fun E z => some (.inr E, z))) := by
  refine (s_go mt_X10_kindAt dX10_kindAt_150 rfl).trans ?_
  refine (s_go mt_X10_kindAt dX10_kindAt_151 rfl).trans ?_
  refine (s_go mt_X10_kindAt dX10_kindAt_152 rfl).trans ?_
  refine (s_go mt_X10_kindAt dX10_kindAt_154 rfl).trans ?_
  refine (s_go mt_X10_kindAt dX10_kindAt_156 rfl).trans ?_
  refine (s_go mt_X10_kindAt dX10_kindAt_158 rfl).trans ?_
  refine (s_go mt_X10_kindAt dX10_kindAt_160 rfl).trans ?_
  exact q_cV mt_X10_kindAt dX10_kindAt_162 rfl mt_X10_isName rfl rfl rfl
theorem e_X10_kindAt_168 (sc : SC) (p0 : Nat) (x1 : Int32) (h : AH) : Run sc n_X10_kindAt 168 [aD p0, aI x1] none [] h = some (.inl (some (aI (nI 8))), h) := by
  refine (s_go mt_X10_kindAt dX10_kindAt_168 rfl).trans ?_
  exact q_ret (c := (some (aI (nI 8)), h)) mt_X10_kindAt dX10_kindAt_170 rfl
theorem e_X10_kindAt_171 (sc : SC) (p0 : Nat) (x1 : Int32) (h : AH) : Run sc n_X10_kindAt 171 [aD p0, aI x1] none [] h = bI (rOK sc h (aD p0) 12 = true) (bC (Call sc n_X10_isName [aD p0, aI x1, aI (nI 108), aI (nI 101), aI (nI 115), aI (nI 115), aI (nI 0)] h) (fun v z => Run sc n_X10_kindAt 185 [aD p0, aI x1] none (v.toList ++ []) z) (fun E z => some (.inr E, z))) := by
  refine (s_go mt_X10_kindAt dX10_kindAt_171 rfl).trans ?_
  refine (s_go mt_X10_kindAt dX10_kindAt_172 rfl).trans ?_
  refine (s_go mt_X10_kindAt dX10_kindAt_173 rfl).trans ?_
  refine (s_go mt_X10_kindAt dX10_kindAt_175 rfl).trans ?_
  refine (s_go mt_X10_kindAt dX10_kindAt_177 rfl).trans ?_
  refine (s_go mt_X10_kindAt dX10_kindAt_179 rfl).trans ?_
  refine (s_go mt_X10_kindAt dX10_kindAt_181 rfl).trans ?_
  exact q_cV mt_X10_kindAt dX10_kindAt_182 rfl mt_X10_isName rfl rfl rfl
theorem e_X10_kindAt_188 (sc : SC) (p0 : Nat) (x1 : Int32) (h : AH) : Run sc n_X10_kindAt 188 [aD p0, aI x1] none [] h = some (.inl (some (aI (nI 9))), h) := by
  refine (s_go mt_X10_kindAt dX10_kindAt_188 rfl).trans ?_
  exact q_ret (c := (some (aI (nI 9)), h)) mt_X10_kindAt dX10_kindAt_190 rfl
theorem e_X10_kindAt_191 (sc : SC) (p0 : Nat) (x1 : Int32) (h : AH) : Run sc n_X10_kindAt 191 [aD p0, aI x1] none [] h = bI (rOK sc h (aD p0) 12 = true) (bC (Call sc n_X10_isName [aD p0, aI x1, aI (nI 106), aI (nI 117), aI (nI 109), aI (nI 112), aI (nI 0)] h) (fun v z => Run sc n_X10_kindAt 205 [aD p0, aI x1] none (v.toList ++ []) z) (fun E z => some (.inr E, z))) := by
  refine (s_go mt_X10_kindAt dX10_kindAt_191 rfl).trans ?_
  refine (s_go mt_X10_kindAt dX10_kindAt_192 rfl).trans ?_
  refine (s_go mt_X10_kindAt dX10_kindAt_193 rfl).trans ?_
  refine (s_go mt_X10_kindAt dX10_kindAt_195 rfl).trans ?_
  refine (s_go mt_X10_kindAt dX10_kindAt_197 rfl).trans ?_
  refine (s_go mt_X10_kindAt dX10_kindAt_199 rfl).trans ?_
  refine (s_go mt_X10_kindAt dX10_kindAt_201 rfl).trans ?_
  exact q_cV mt_X10_kindAt dX10_kindAt_202 rfl mt_X10_isName rfl rfl rfl
theorem e_X10_kindAt_208 (sc : SC) (p0 : Nat) (x1 : Int32) (h : AH) : Run sc n_X10_kindAt 208 [aD p0, aI x1] none [] h = some (.inl (some (aI (nI 10))), h) := by
  refine (s_go mt_X10_kindAt dX10_kindAt_208 rfl).trans ?_
  exact q_ret (c := (some (aI (nI 10)), h)) mt_X10_kindAt dX10_kindAt_210 rfl
theorem e_X10_kindAt_211 (sc : SC) (p0 : Nat) (x1 : Int32) (h : AH) : Run sc n_X10_kindAt 211 [aD p0, aI x1] none [] h = bI (rOK sc h (aD p0) 12 = true) (bC (Call sc n_X10_isName [aD p0, aI x1, aI (nI 104), aI (nI 97), aI (nI 108), aI (nI 116), aI (nI 0)] h) (fun v z => Run sc n_X10_kindAt 225 [aD p0, aI x1] none (v.toList ++ []) z) (fun E z => some (.inr E, z))) := by
  refine (s_go mt_X10_kindAt dX10_kindAt_211 rfl).trans ?_
  refine (s_go mt_X10_kindAt dX10_kindAt_212 rfl).trans ?_
  refine (s_go mt_X10_kindAt dX10_kindAt_213 rfl).trans ?_
  refine (s_go mt_X10_kindAt dX10_kindAt_215 rfl).trans ?_
  refine (s_go mt_X10_kindAt dX10_kindAt_217 rfl).trans ?_
  refine (s_go mt_X10_kindAt dX10_kindAt_219 rfl).trans ?_
  refine (s_go mt_X10_kindAt dX10_kindAt_221 rfl).trans ?_
  exact q_cV mt_X10_kindAt dX10_kindAt_222 rfl mt_X10_isName rfl rfl rfl
theorem e_X10_kindAt_228 (sc : SC) (p0 : Nat) (x1 : Int32) (h : AH) : Run sc n_X10_kindAt 228 [aD p0, aI x1] none [] h = Run sc n_X10_kindAt 234 [aD p0, aI x1] none [aI (nI 11)] h := by
  refine (s_go mt_X10_kindAt dX10_kindAt_228 rfl).trans ?_
  refine (s_go mt_X10_kindAt dX10_kindAt_230 rfl).trans ?_
  exact rfl
theorem e_X10_kindAt_233 (sc : SC) (p0 : Nat) (x1 : Int32) (h : AH) : Run sc n_X10_kindAt 233 [aD p0, aI x1] none [] h = Run sc n_X10_kindAt 234 [aD p0, aI x1] none [aI (-1)] h := by
  refine (s_go mt_X10_kindAt dX10_kindAt_233 rfl).trans ?_
  exact rfl
theorem e_X10_kindAt_234 (sc : SC) (p0 : Nat) (x1 : Int32) (y0 : Int32) (h : AH) : Run sc n_X10_kindAt 234 [aD p0, aI x1] none [aI y0] h = some (.inl (some (aI y0)), h) := by
  exact q_ret (c := (some (aI y0), h)) mt_X10_kindAt dX10_kindAt_234 rfl
theorem e_X10_kindAt_13 (sc : SC) (p0 : Nat) (x1 : Int32) (y0 : Int32) (h : AH) : Run sc n_X10_kindAt 13 [aD p0, aI x1] none [aI y0] h = Run sc n_X10_kindAt (if y0 = 0 then 18 else 16) [aD p0, aI x1] none [] h := by
  exact q_if mt_X10_kindAt dX10_kindAt_13 (fun _ _ _ _ => rfl) rfl
theorem e_X10_kindAt_31 (sc : SC) (p0 : Nat) (x1 : Int32) (y0 : Int32) (h : AH) : Run sc n_X10_kindAt 31 [aD p0, aI x1] none [aI y0] h = Run sc n_X10_kindAt (if y0 = 0 then 36 else 34) [aD p0, aI x1] none [] h := by
  exact q_if mt_X10_kindAt dX10_kindAt_31 (fun _ _ _ _ => rfl) rfl
theorem e_X10_kindAt_50 (sc : SC) (p0 : Nat) (x1 : Int32) (y0 : Int32) (h : AH) : Run sc n_X10_kindAt 50 [aD p0, aI x1] none [aI y0] h = Run sc n_X10_kindAt (if y0 = 0 then 55 else 53) [aD p0, aI x1] none [] h := by
  exact q_if mt_X10_kindAt dX10_kindAt_50 (fun _ _ _ _ => rfl) rfl
theorem e_X10_kindAt_68 (sc : SC) (p0 : Nat) (x1 : Int32) (y0 : Int32) (h : AH) : Run sc n_X10_kindAt 68 [aD p0, aI x1] none [aI y0] h = Run sc n_X10_kindAt (if y0 = 0 then 73 else 71) [aD p0, aI x1] none [] h := by
  exact q_if mt_X10_kindAt dX10_kindAt_68 (fun _ _ _ _ => rfl) rfl
theorem e_X10_kindAt_86 (sc : SC) (p0 : Nat) (x1 : Int32) (y0 : Int32) (h : AH) : Run sc n_X10_kindAt 86 [aD p0, aI x1] none [aI y0] h = Run sc n_X10_kindAt (if y0 = 0 then 91 else 89) [aD p0, aI x1] none [] h := by
  exact q_if mt_X10_kindAt dX10_kindAt_86 (fun _ _ _ _ => rfl) rfl
theorem e_X10_kindAt_105 (sc : SC) (p0 : Nat) (x1 : Int32) (y0 : Int32) (h : AH) : Run sc n_X10_kindAt 105 [aD p0, aI x1] none [aI y0] h = Run sc n_X10_kindAt (if y0 = 0 then 110 else 108) [aD p0, aI x1] none [] h := by
  exact q_if mt_X10_kindAt dX10_kindAt_105 (fun _ _ _ _ => rfl) rfl
theorem e_X10_kindAt_125 (sc : SC) (p0 : Nat) (x1 : Int32) (y0 : Int32) (h : AH) : Run sc n_X10_kindAt 125 [aD p0, aI x1] none [aI y0] h = Run sc n_X10_kindAt (if y0 = 0 then 131 else 128) [aD p0, aI x1] none [] h := by
  exact q_if mt_X10_kindAt dX10_kindAt_125 (fun _ _ _ _ => rfl) rfl
theorem e_X10_kindAt_144 (sc : SC) (p0 : Nat) (x1 : Int32) (y0 : Int32) (h : AH) : Run sc n_X10_kindAt 144 [aD p0, aI x1] none [aI y0] h = Run sc n_X10_kindAt (if y0 = 0 then 150 else 147) [aD p0, aI x1] none [] h := by
  exact q_if mt_X10_kindAt dX10_kindAt_144 (fun _ _ _ _ => rfl) rfl
theorem e_X10_kindAt_165 (sc : SC) (p0 : Nat) (x1 : Int32) (y0 : Int32) (h : AH) : Run sc n_X10_kindAt 165 [aD p0, aI x1] none [aI y0] h = Run sc n_X10_kindAt (if y0 = 0 then 171 else 168) [aD p0, aI x1] none [] h := by
  exact q_if mt_X10_kindAt dX10_kindAt_165 (fun _ _ _ _ => rfl) rfl
theorem e_X10_kindAt_185 (sc : SC) (p0 : Nat) (x1 : Int32) (y0 : Int32) (h : AH) : Run sc n_X10_kindAt 185 [aD p0, aI x1] none [aI y0] h = Run sc n_X10_kindAt (if y0 = 0 then 191 else 188) [aD p0, aI x1] none [] h := by
  exact q_if mt_X10_kindAt dX10_kindAt_185 (fun _ _ _ _ => rfl) rfl
theorem e_X10_kindAt_205 (sc : SC) (p0 : Nat) (x1 : Int32) (y0 : Int32) (h : AH) : Run sc n_X10_kindAt 205 [aD p0, aI x1] none [aI y0] h = Run sc n_X10_kindAt (if y0 = 0 then 211 else 208) [aD p0, aI x1] none [] h := by
  exact q_if mt_X10_kindAt dX10_kindAt_205 (fun _ _ _ _ => rfl) rfl
theorem e_X10_kindAt_225 (sc : SC) (p0 : Nat) (x1 : Int32) (y0 : Int32) (h : AH) : Run sc n_X10_kindAt 225 [aD p0, aI x1] none [aI y0] h = Run sc n_X10_kindAt (if y0 = 0 then 233 else 228) [aD p0, aI x1] none [] h := by
  exact q_if mt_X10_kindAt dX10_kindAt_225 (fun _ _ _ _ => rfl) rfl
/-! BranchSlotFillerModel.fault()V -/
theorem e_X10_fault_0 (sc : SC) (p0 : Nat) (h : AH) : Run sc n_X10_fault 0 [aD p0] none [] h = bF (getF sc h (aD p0) 12 10) (fun z => Run sc n_X10_fault 5 [aD p0] none [z, aD p0] h) := by
  refine (s_go mt_X10_fault dX10_fault_0 rfl).trans ?_
  refine (s_go mt_X10_fault dX10_fault_1 rfl).trans ?_
  exact q_getfield mt_X10_fault dX10_fault_2 rfl
theorem e_X10_fault_9 (sc : SC) (p0 : Nat) (q0 : Nat) (h : AH) : Run sc n_X10_fault 9 [aD p0] none [aD q0] h = bF (getF sc h (aD p0) 12 9) (fun z => Run sc n_X10_fault 13 [aD p0] none [z, aD q0] h) := by
  refine (s_go mt_X10_fault dX10_fault_9 rfl).trans ?_
  exact q_getfield mt_X10_fault dX10_fault_10 rfl
theorem e_X10_fault_16 (sc : SC) (p0 : Nat) (q0 : Nat) (h : AH) : Run sc n_X10_fault 16 [aD p0] none [aD q0] h = bF (getF sc h (aD p0) 12 10) (fun z => Run sc n_X10_fault 20 [aD p0] none [z, aD q0] h) := by
  refine (s_go mt_X10_fault dX10_fault_16 rfl).trans ?_
  exact q_getfield mt_X10_fault dX10_fault_17 rfl
theorem e_X10_fault_20 (sc : SC) (p0 : Nat) (q0 : Nat) (y1 : Int32) (h : AH) : Run sc n_X10_fault 20 [aD p0] none [aI y1, aD q0] h = bO (putF h q0 12 10 0 (aI y1)) (fun z => Run sc n_X10_fault 23 [aD p0] none [] z) := by
  exact q_putfield mt_X10_fault dX10_fault_20 rfl rfl rfl rfl
theorem e_X10_fault_5 (sc : SC) (p0 : Nat) (q0 : Nat) (y1 : Int32) (h : AH) : Run sc n_X10_fault 5 [aD p0] none [aI y1, aD q0] h = Run sc n_X10_fault (if ¬ y1 = (-1) then 16 else 9) [aD p0] none [aD q0] h := by
  refine (s_go mt_X10_fault dX10_fault_5 rfl).trans ?_
  exact q_icmp mt_X10_fault dX10_fault_6 (fun _ _ _ _ => rfl) rfl
theorem e_X10_fault_13 (sc : SC) (p0 : Nat) (q0 : Nat) (y1 : Int32) (h : AH) : Run sc n_X10_fault 13 [aD p0] none [aI y1, aD q0] h = Run sc n_X10_fault 20 [aD p0] none [aI y1, aD q0] h := by
  refine (s_go mt_X10_fault dX10_fault_13 rfl).trans ?_
  exact rfl
theorem e_X10_fault_23 (sc : SC) (p0 : Nat) (h : AH) : Run sc n_X10_fault 23 [aD p0] none [] h = some (.inl none, h) := by
  exact q_ret (c := (none, h)) mt_X10_fault dX10_fault_23 rfl
/-! BranchSlotFillerModel.nameLength(I)I -/
theorem e_X10_nameLength_0 (sc : SC) (x0 : Int32) (h : AH) : Run sc n_X10_nameLength 0 [aI x0] none [] h = Run sc n_X10_nameLength (if x0 = (nI 8) then 12 else 6) [aI x0] none [] h := by
  refine (s_go mt_X10_nameLength dX10_nameLength_0 rfl).trans ?_
  refine (s_go mt_X10_nameLength dX10_nameLength_1 rfl).trans ?_
  exact q_icmp mt_X10_nameLength dX10_nameLength_3 (fun _ _ _ _ => rfl) rfl
theorem e_X10_nameLength_6 (sc : SC) (x0 : Int32) (h : AH) : Run sc n_X10_nameLength 6 [aI x0] none [] h = Run sc n_X10_nameLength (if ¬ x0 = (nI 6) then 16 else 12) [aI x0] none [] h := by
  refine (s_go mt_X10_nameLength dX10_nameLength_6 rfl).trans ?_
  refine (s_go mt_X10_nameLength dX10_nameLength_7 rfl).trans ?_
  exact q_icmp mt_X10_nameLength dX10_nameLength_9 (fun _ _ _ _ => rfl) rfl
theorem e_X10_nameLength_12 (sc : SC) (x0 : Int32) (h : AH) : Run sc n_X10_nameLength 12 [aI x0] none [] h = Run sc n_X10_nameLength 49 [aI x0] none [aI (nI 5)] h := by
  refine (s_go mt_X10_nameLength dX10_nameLength_12 rfl).trans ?_
  refine (s_go mt_X10_nameLength dX10_nameLength_13 rfl).trans ?_
  exact rfl
theorem e_X10_nameLength_16 (sc : SC) (x0 : Int32) (h : AH) : Run sc n_X10_nameLength 16 [aI x0] none [] h = Run sc n_X10_nameLength (if x0 = (nI 2) then 44 else 21) [aI x0] none [] h := by
  refine (s_go mt_X10_nameLength dX10_nameLength_16 rfl).trans ?_
  refine (s_go mt_X10_nameLength dX10_nameLength_17 rfl).trans ?_
  exact q_icmp mt_X10_nameLength dX10_nameLength_18 (fun _ _ _ _ => rfl) rfl
theorem e_X10_nameLength_21 (sc : SC) (x0 : Int32) (h : AH) : Run sc n_X10_nameLength 21 [aI x0] none [] h = Run sc n_X10_nameLength (if x0 = (nI 5) then 44 else 26) [aI x0] none [] h := by
  refine (s_go mt_X10_nameLength dX10_nameLength_21 rfl).trans ?_
  refine (s_go mt_X10_nameLength dX10_nameLength_22 rfl).trans ?_
  exact q_icmp mt_X10_nameLength dX10_nameLength_23 (fun _ _ _ _ => rfl) rfl
theorem e_X10_nameLength_26 (sc : SC) (x0 : Int32) (h : AH) : Run sc n_X10_nameLength 26 [aI x0] none [] h = Run sc n_X10_nameLength (if x0 = (nI 9) then 44 else 32) [aI x0] none [] h := by
  refine (s_go mt_X10_nameLength dX10_nameLength_26 rfl).trans ?_
  refine (s_go mt_X10_nameLength dX10_nameLength_27 rfl).trans ?_
  exact q_icmp mt_X10_nameLength dX10_nameLength_29 (fun _ _ _ _ => rfl) rfl
theorem e_X10_nameLength_32 (sc : SC) (x0 : Int32) (h : AH) : Run sc n_X10_nameLength 32 [aI x0] none [] h = Run sc n_X10_nameLength (if x0 = (nI 10) then 44 else 38) [aI x0] none [] h := by
  refine (s_go mt_X10_nameLength dX10_nameLength_32 rfl).trans ?_
  refine (s_go mt_X10_nameLength dX10_nameLength_33 rfl).trans ?_
  exact q_icmp mt_X10_nameLength dX10_nameLength_35 (fun _ _ _ _ => rfl) rfl
theorem e_X10_nameLength_38 (sc : SC) (x0 : Int32) (h : AH) : Run sc n_X10_nameLength 38 [aI x0] none [] h = Run sc n_X10_nameLength (if ¬ x0 = (nI 11) then 48 else 44) [aI x0] none [] h := by
  refine (s_go mt_X10_nameLength dX10_nameLength_38 rfl).trans ?_
  refine (s_go mt_X10_nameLength dX10_nameLength_39 rfl).trans ?_
  exact q_icmp mt_X10_nameLength dX10_nameLength_41 (fun _ _ _ _ => rfl) rfl
theorem e_X10_nameLength_44 (sc : SC) (x0 : Int32) (h : AH) : Run sc n_X10_nameLength 44 [aI x0] none [] h = Run sc n_X10_nameLength 49 [aI x0] none [aI (nI 4)] h := by
  refine (s_go mt_X10_nameLength dX10_nameLength_44 rfl).trans ?_
  refine (s_go mt_X10_nameLength dX10_nameLength_45 rfl).trans ?_
  exact rfl
theorem e_X10_nameLength_48 (sc : SC) (x0 : Int32) (h : AH) : Run sc n_X10_nameLength 48 [aI x0] none [] h = Run sc n_X10_nameLength 49 [aI x0] none [aI (nI 3)] h := by
  refine (s_go mt_X10_nameLength dX10_nameLength_48 rfl).trans ?_
  exact rfl
theorem e_X10_nameLength_49 (sc : SC) (x0 : Int32) (y0 : Int32) (h : AH) : Run sc n_X10_nameLength 49 [aI x0] none [aI y0] h = some (.inl (some (aI y0)), h) := by
  exact q_ret (c := (some (aI y0), h)) mt_X10_nameLength dX10_nameLength_49 rfl
/-! BranchSlotFillerModel.operandsOf(I)I -/
theorem e_X10_operandsOf_0 (sc : SC) (x0 : Int32) (h : AH) : Run sc n_X10_operandsOf 0 [aI x0] none [] h = Run sc n_X10_operandsOf (if (x0).toInt < 0 ∨ 11 < (x0).toInt then 74 else ([64, 66, 68, 74, 74, 74, 74, 70, 74, 74, 72, 64] : List Nat).getD ((x0).toInt - 0).toNat 0) [aI x0] none [] h := by
  refine (s_go mt_X10_operandsOf dX10_operandsOf_0 rfl).trans ?_
  exact q_table (pc := 1) (T := [64, 66, 68, 74, 74, 74, 74, 70, 74, 74, 72, 64]) mt_X10_operandsOf dX10_operandsOf_1 rfl (by decide +kernel)
theorem e_X10_operandsOf_64 (sc : SC) (x0 : Int32) (h : AH) : Run sc n_X10_operandsOf 64 [aI x0] none [] h = some (.inl (some (aI (nI 0))), h) := by
  refine (s_go mt_X10_operandsOf dX10_operandsOf_64 rfl).trans ?_
  exact q_ret (c := (some (aI (nI 0)), h)) mt_X10_operandsOf dX10_operandsOf_65 rfl
theorem e_X10_operandsOf_66 (sc : SC) (x0 : Int32) (h : AH) : Run sc n_X10_operandsOf 66 [aI x0] none [] h = some (.inl (some (aI (nI 5))), h) := by
  refine (s_go mt_X10_operandsOf dX10_operandsOf_66 rfl).trans ?_
  exact q_ret (c := (some (aI (nI 5)), h)) mt_X10_operandsOf dX10_operandsOf_67 rfl
theorem e_X10_operandsOf_68 (sc : SC) (x0 : Int32) (h : AH) : Run sc n_X10_operandsOf 68 [aI x0] none [] h = some (.inl (some (aI (nI 3))), h) := by
  refine (s_go mt_X10_operandsOf dX10_operandsOf_68 rfl).trans ?_
  exact q_ret (c := (some (aI (nI 3)), h)) mt_X10_operandsOf dX10_operandsOf_69 rfl
theorem e_X10_operandsOf_70 (sc : SC) (x0 : Int32) (h : AH) : Run sc n_X10_operandsOf 70 [aI x0] none [] h = some (.inl (some (aI (nI 1))), h) := by
  refine (s_go mt_X10_operandsOf dX10_operandsOf_70 rfl).trans ?_
  exact q_ret (c := (some (aI (nI 1)), h)) mt_X10_operandsOf dX10_operandsOf_71 rfl
theorem e_X10_operandsOf_72 (sc : SC) (x0 : Int32) (h : AH) : Run sc n_X10_operandsOf 72 [aI x0] none [] h = some (.inl (some (aI (nI 4))), h) := by
  refine (s_go mt_X10_operandsOf dX10_operandsOf_72 rfl).trans ?_
  exact q_ret (c := (some (aI (nI 4)), h)) mt_X10_operandsOf dX10_operandsOf_73 rfl
theorem e_X10_operandsOf_74 (sc : SC) (x0 : Int32) (h : AH) : Run sc n_X10_operandsOf 74 [aI x0] none [] h = some (.inl (some (aI (nI 7))), h) := by
  refine (s_go mt_X10_operandsOf dX10_operandsOf_74 rfl).trans ?_
  exact q_ret (c := (some (aI (nI 7)), h)) mt_X10_operandsOf dX10_operandsOf_76 rfl
/-! BranchSlotFillerModel.sign()I -/
theorem e_X10_sign_0 (sc : SC) (p0 : Nat) (h : AH) : Run sc n_X10_sign 0 [aD p0] none [] h = bF (getF sc h (aD p0) 12 9) (fun z => Run sc n_X10_sign 4 [aD p0] none [z] h) := by
  refine (s_go mt_X10_sign dX10_sign_0 rfl).trans ?_
  exact q_getfield mt_X10_sign dX10_sign_1 rfl
theorem e_X10_sign_11 (sc : SC) (p0 : Nat) (h : AH) : Run sc n_X10_sign 11 [aD p0] none [] h = bF (getF sc h (aD p0) 12 6) (fun z => Run sc n_X10_sign 15 [aD p0] none [z] h) := by
  refine (s_go mt_X10_sign dX10_sign_11 rfl).trans ?_
  exact q_getfield mt_X10_sign dX10_sign_12 rfl
theorem e_X10_sign_23 (sc : SC) (p0 : Nat) (h : AH) : Run sc n_X10_sign 23 [aD p0] none [] h = Run sc n_X10_sign 24 [aD p0] none [aI (-1)] h := by
  refine (s_go mt_X10_sign dX10_sign_23 rfl).trans ?_
  exact rfl
theorem e_X10_sign_24 (sc : SC) (p0 : Nat) (y0 : Int32) (h : AH) : Run sc n_X10_sign 24 [aD p0] none [aI y0] h = some (.inl (some (aI y0)), h) := by
  exact q_ret (c := (some (aI y0), h)) mt_X10_sign dX10_sign_24 rfl
theorem e_X10_sign_4 (sc : SC) (p0 : Nat) (y0 : Int32) (h : AH) : Run sc n_X10_sign 4 [aD p0] none [aI y0] h = bF (getF sc h (aD p0) 12 8) (fun z => Run sc n_X10_sign 8 [aD p0] none [z, aI y0] h) := by
  refine (s_go mt_X10_sign dX10_sign_4 rfl).trans ?_
  exact q_getfield mt_X10_sign dX10_sign_5 rfl
theorem e_X10_sign_15 (sc : SC) (p0 : Nat) (q0 : Nat) (h : AH) : Run sc n_X10_sign 15 [aD p0] none [aD q0] h = bF (getF sc h (aD p0) 12 9) (fun z => Run sc n_X10_sign 19 [aD p0] none [z, aD q0] h) := by
  refine (s_go mt_X10_sign dX10_sign_15 rfl).trans ?_
  exact q_getfield mt_X10_sign dX10_sign_16 rfl
theorem e_X10_sign_8 (sc : SC) (p0 : Nat) (y0 : Int32) (y1 : Int32) (h : AH) : Run sc n_X10_sign 8 [aD p0] none [aI y1, aI y0] h = Run sc n_X10_sign (if y1 ≤ y0 then 23 else 11) [aD p0] none [] h := by
  exact q_icmp mt_X10_sign dX10_sign_8 (fun _ _ _ _ => rfl) rfl
theorem e_X10_sign_19 (sc : SC) (p0 : Nat) (q0 : Nat) (y1 : Int32) (h : AH) : Run sc n_X10_sign 19 [aD p0] none [aI y1, aD q0] h = bO (ldI sc h (fun t => t == 1) (aD q0) y1) (fun z => Run sc n_X10_sign 20 [aD p0] none [aI z] h) := by
  exact q_caload mt_X10_sign dX10_sign_19
theorem e_X10_sign_20 (sc : SC) (p0 : Nat) (y0 : Int32) (h : AH) : Run sc n_X10_sign 20 [aD p0] none [aI y0] h = Run sc n_X10_sign 24 [aD p0] none [aI y0] h := by
  refine (s_go mt_X10_sign dX10_sign_20 rfl).trans ?_
  exact rfl
/-! BranchSlotFillerModel.isDigit()Z -/
theorem e_X10_isDigit_0 (sc : SC) (p0 : Nat) (h : AH) : Run sc n_X10_isDigit 0 [aD p0] none [] h = bI (rOK sc h (aD p0) 12 = true) (bC (Call sc n_X10_sign [aD p0] h) (fun v z => Run sc n_X10_isDigit 4 [aD p0] none (v.toList ++ []) z) (fun E z => some (.inr E, z))) := by
  refine (s_go mt_X10_isDigit dX10_isDigit_0 rfl).trans ?_
  exact q_cV mt_X10_isDigit dX10_isDigit_1 rfl mt_X10_sign rfl rfl rfl
theorem e_X10_isDigit_4 (sc : SC) (p0 : Nat) (y0 : Int32) (h : AH) : Run sc n_X10_isDigit 4 [aD p0] none [aI y0] h = bC (Call sc n_X10_isIn [aI y0, aI (nI 48), aI (nI 57)] h) (fun v z => Run sc n_X10_isDigit 11 [aD p0] none (v.toList ++ []) z) (fun E z => some (.inr E, z)) := by
  refine (s_go mt_X10_isDigit dX10_isDigit_4 rfl).trans ?_
  refine (s_go mt_X10_isDigit dX10_isDigit_6 rfl).trans ?_
  exact q_cS mt_X10_isDigit dX10_isDigit_8 rfl mt_X10_isIn rfl rfl
theorem e_X10_isDigit_11 (sc : SC) (p0 : Nat) (y0 : Int32) (h : AH) : Run sc n_X10_isDigit 11 [aD p0] none [aI y0] h = bI (retK (some FieldType.boolean) y0 = true) (some (.inl (some (aI y0)), h)) := by
  exact q_iret mt_X10_isDigit dX10_isDigit_11
/-! BranchSlotFillerModel.readOperand(Z)I -/
theorem e_X10_readOperand_0 (sc : SC) (p0 : Nat) (x1 : Int32) (v2 : AV) (v3 : AV) (v4 : AV) (h : AH) : Run sc n_X10_readOperand 0 [aD p0, aI x1, v2, v3, v4] none [] h = bF (getF sc h (aD p0) 12 10) (fun z => Run sc n_X10_readOperand 4 [aD p0, aI x1, v2, v3, v4] none [z] h) := by
  refine (s_go mt_X10_readOperand dX10_readOperand_0 rfl).trans ?_
  exact q_getfield mt_X10_readOperand dX10_readOperand_1 rfl
theorem e_X10_readOperand_8 (sc : SC) (p0 : Nat) (x1 : Int32) (v2 : AV) (v3 : AV) (v4 : AV) (h : AH) : Run sc n_X10_readOperand 8 [aD p0, aI x1, v2, v3, v4] none [] h = bI (rOK sc h (aD p0) 12 = true) (bC (Call sc n_X10_sign [aD p0] h) (fun v z => Run sc n_X10_readOperand 12 [aD p0, aI x1, v2, v3, v4] none (v.toList ++ []) z) (fun E z => some (.inr E, z))) := by
  refine (s_go mt_X10_readOperand dX10_readOperand_8 rfl).trans ?_
  exact q_cV mt_X10_readOperand dX10_readOperand_9 rfl mt_X10_sign rfl rfl rfl
theorem e_X10_readOperand_17 (sc : SC) (p0 : Nat) (x1 : Int32) (v2 : AV) (v3 : AV) (v4 : AV) (h : AH) : Run sc n_X10_readOperand 17 [aD p0, aI x1, v2, v3, v4] none [] h = bF (getF sc h (aD p0) 12 9) (fun z => Run sc n_X10_readOperand 22 [aD p0, aI x1, v2, v3, v4] none [z, aD p0] h) := by
  refine (s_go mt_X10_readOperand dX10_readOperand_17 rfl).trans ?_
  refine (s_go mt_X10_readOperand dX10_readOperand_18 rfl).trans ?_
  exact q_getfield mt_X10_readOperand dX10_readOperand_19 rfl
theorem e_X10_readOperand_30 (sc : SC) (p0 : Nat) (x1 : Int32) (v2 : AV) (v3 : AV) (v4 : AV) (h : AH) : Run sc n_X10_readOperand 30 [aD p0, aI x1, v2, v3, v4] none [] h = bI (rOK sc h (aD p0) 12 = true) (bC (Call sc n_X10_fault [aD p0] h) (fun v z => Run sc n_X10_readOperand 34 [aD p0, aI x1, v2, v3, v4] none (v.toList ++ []) z) (fun E z => some (.inr E, z))) := by
  refine (s_go mt_X10_readOperand dX10_readOperand_30 rfl).trans ?_
  exact q_cV mt_X10_readOperand dX10_readOperand_31 rfl mt_X10_fault rfl rfl rfl
theorem e_X10_readOperand_34 (sc : SC) (p0 : Nat) (x1 : Int32) (v2 : AV) (v3 : AV) (v4 : AV) (h : AH) : Run sc n_X10_readOperand 34 [aD p0, aI x1, v2, v3, v4] none [] h = bF (getF sc h (aD p0) 12 10) (fun z => Run sc n_X10_readOperand 38 [aD p0, aI x1, v2, v3, v4] none [z] h) := by
  refine (s_go mt_X10_readOperand dX10_readOperand_34 rfl).trans ?_
  exact q_getfield mt_X10_readOperand dX10_readOperand_35 rfl
theorem e_X10_readOperand_42 (sc : SC) (p0 : Nat) (x1 : Int32) (v2 : AV) (v3 : AV) (v4 : AV) (h : AH) : Run sc n_X10_readOperand 42 [aD p0, aI x1, v2, v3, v4] none [] h = Run sc n_X10_readOperand (if x1 = 0 then 59 else 46) [aD p0, aI x1, v2, v3, v4] none [] h := by
  refine (s_go mt_X10_readOperand dX10_readOperand_42 rfl).trans ?_
  exact q_if mt_X10_readOperand dX10_readOperand_43 (fun _ _ _ _ => rfl) rfl
theorem e_X10_readOperand_46 (sc : SC) (p0 : Nat) (x1 : Int32) (v2 : AV) (v3 : AV) (v4 : AV) (h : AH) : Run sc n_X10_readOperand 46 [aD p0, aI x1, v2, v3, v4] none [] h = bI (rOK sc h (aD p0) 12 = true) (bC (Call sc n_X10_sign [aD p0] h) (fun v z => Run sc n_X10_readOperand 50 [aD p0, aI x1, v2, v3, v4] none (v.toList ++ []) z) (fun E z => some (.inr E, z))) := by
  refine (s_go mt_X10_readOperand dX10_readOperand_46 rfl).trans ?_
  exact q_cV mt_X10_readOperand dX10_readOperand_47 rfl mt_X10_sign rfl rfl rfl
theorem e_X10_readOperand_55 (sc : SC) (p0 : Nat) (x1 : Int32) (v2 : AV) (v3 : AV) (v4 : AV) (h : AH) : Run sc n_X10_readOperand 55 [aD p0, aI x1, v2, v3, v4] none [] h = Run sc n_X10_readOperand 60 [aD p0, aI x1, v2, v3, v4] none [aI (nI 1)] h := by
  refine (s_go mt_X10_readOperand dX10_readOperand_55 rfl).trans ?_
  refine (s_go mt_X10_readOperand dX10_readOperand_56 rfl).trans ?_
  exact rfl
theorem e_X10_readOperand_59 (sc : SC) (p0 : Nat) (x1 : Int32) (v2 : AV) (v3 : AV) (v4 : AV) (h : AH) : Run sc n_X10_readOperand 59 [aD p0, aI x1, v2, v3, v4] none [] h = Run sc n_X10_readOperand 60 [aD p0, aI x1, v2, v3, v4] none [aI (nI 0)] h := by
  refine (s_go mt_X10_readOperand dX10_readOperand_59 rfl).trans ?_
  exact rfl
theorem e_X10_readOperand_60 (sc : SC) (p0 : Nat) (x1 : Int32) (v2 : AV) (v3 : AV) (v4 : AV) (y0 : Int32) (h : AH) : Run sc n_X10_readOperand 60 [aD p0, aI x1, v2, v3, v4] none [aI y0] h = bF (getF sc h (aD p0) 12 9) (fun z => Run sc n_X10_readOperand 66 [aD p0, aI x1, aI y0, v3, v4] none [z, aD p0] h) := by
  refine (s_go mt_X10_readOperand dX10_readOperand_60 rfl).trans ?_
  refine (s_go mt_X10_readOperand dX10_readOperand_61 rfl).trans ?_
  refine (s_go mt_X10_readOperand dX10_readOperand_62 rfl).trans ?_
  exact q_getfield mt_X10_readOperand dX10_readOperand_63 rfl
theorem e_X10_readOperand_70 (sc : SC) (p0 : Nat) (x1 : Int32) (x2 : Int32) (v3 : AV) (v4 : AV) (q0 : Nat) (y1 : Int32) (h : AH) : Run sc n_X10_readOperand 70 [aD p0, aI x1, aI x2, v3, v4] none [aI y1, aD q0] h = Run sc n_X10_readOperand 75 [aD p0, aI x1, aI x2, v3, v4] none [aI (nI 1), aI y1, aD q0] h := by
  refine (s_go mt_X10_readOperand dX10_readOperand_70 rfl).trans ?_
  refine (s_go mt_X10_readOperand dX10_readOperand_71 rfl).trans ?_
  exact rfl
theorem e_X10_readOperand_74 (sc : SC) (p0 : Nat) (x1 : Int32) (x2 : Int32) (v3 : AV) (v4 : AV) (q0 : Nat) (y1 : Int32) (h : AH) : Run sc n_X10_readOperand 74 [aD p0, aI x1, aI x2, v3, v4] none [aI y1, aD q0] h = Run sc n_X10_readOperand 75 [aD p0, aI x1, aI x2, v3, v4] none [aI (nI 0), aI y1, aD q0] h := by
  refine (s_go mt_X10_readOperand dX10_readOperand_74 rfl).trans ?_
  exact rfl
theorem e_X10_readOperand_75 (sc : SC) (p0 : Nat) (x1 : Int32) (x2 : Int32) (v3 : AV) (v4 : AV) (q0 : Nat) (y1 : Int32) (y2 : Int32) (h : AH) : Run sc n_X10_readOperand 75 [aD p0, aI x1, aI x2, v3, v4] none [aI y2, aI y1, aD q0] h = bO (putF h q0 12 9 0 (aI (y1 + y2))) (fun z => Run sc n_X10_readOperand 79 [aD p0, aI x1, aI x2, v3, v4] none [] z) := by
  refine (s_go mt_X10_readOperand dX10_readOperand_75 rfl).trans ?_
  exact q_putfield mt_X10_readOperand dX10_readOperand_76 rfl rfl rfl rfl
theorem e_X10_readOperand_84 (sc : SC) (p0 : Nat) (x1 : Int32) (x2 : Int32) (x3 : Int32) (x4 : Int32) (h : AH) : Run sc n_X10_readOperand 84 [aD p0, aI x1, aI x2, aI x3, aI x4] none [] h = bF (getF sc h (aD p0) 12 10) (fun z => Run sc n_X10_readOperand 88 [aD p0, aI x1, aI x2, aI x3, aI x4] none [z] h) := by
  refine (s_go mt_X10_readOperand dX10_readOperand_84 rfl).trans ?_
  exact q_getfield mt_X10_readOperand dX10_readOperand_85 rfl
theorem e_X10_readOperand_92 (sc : SC) (p0 : Nat) (x1 : Int32) (x2 : Int32) (x3 : Int32) (x4 : Int32) (h : AH) : Run sc n_X10_readOperand 92 [aD p0, aI x1, aI x2, aI x3, aI x4] none [] h = Run sc n_X10_readOperand (if (nI 2) ≤ x4 then 134 else 98) [aD p0, aI x1, aI x2, aI x3, aI x4] none [] h := by
  refine (s_go mt_X10_readOperand dX10_readOperand_92 rfl).trans ?_
  refine (s_go mt_X10_readOperand dX10_readOperand_94 rfl).trans ?_
  exact q_icmp mt_X10_readOperand dX10_readOperand_95 (fun _ _ _ _ => rfl) rfl
theorem e_X10_readOperand_98 (sc : SC) (p0 : Nat) (x1 : Int32) (x2 : Int32) (x3 : Int32) (x4 : Int32) (h : AH) : Run sc n_X10_readOperand 98 [aD p0, aI x1, aI x2, aI x3, aI x4] none [] h = bI (rOK sc h (aD p0) 12 = true) (bC (Call sc n_X10_isDigit [aD p0] h) (fun v z => Run sc n_X10_readOperand 102 [aD p0, aI x1, aI x2, aI x3, aI x4] none (v.toList ++ []) z) (fun E z => some (.inr E, z))) := by
  refine (s_go mt_X10_readOperand dX10_readOperand_98 rfl).trans ?_
  exact q_cV mt_X10_readOperand dX10_readOperand_99 rfl mt_X10_isDigit rfl rfl rfl
theorem e_X10_readOperand_105 (sc : SC) (p0 : Nat) (x1 : Int32) (x2 : Int32) (x3 : Int32) (x4 : Int32) (h : AH) : Run sc n_X10_readOperand 105 [aD p0, aI x1, aI x2, aI x3, aI x4] none [] h = bI (rOK sc h (aD p0) 12 = true) (bC (Call sc n_X10_sign [aD p0] h) (fun v z => Run sc n_X10_readOperand 113 [aD p0, aI x1, aI x2, aI x3, aI x4] none (v.toList ++ [aI ((nI 10) * x3)]) z) (fun E z => some (.inr E, z))) := by
  refine (s_go mt_X10_readOperand dX10_readOperand_105 rfl).trans ?_
  refine (s_go mt_X10_readOperand dX10_readOperand_107 rfl).trans ?_
  refine (s_go mt_X10_readOperand dX10_readOperand_108 rfl).trans ?_
  refine (s_go mt_X10_readOperand dX10_readOperand_109 rfl).trans ?_
  exact q_cV mt_X10_readOperand dX10_readOperand_110 rfl mt_X10_sign rfl rfl rfl
theorem e_X10_readOperand_134 (sc : SC) (p0 : Nat) (x1 : Int32) (x2 : Int32) (x3 : Int32) (x4 : Int32) (h : AH) : Run sc n_X10_readOperand 134 [aD p0, aI x1, aI x2, aI x3, aI x4] none [] h = Run sc n_X10_readOperand (if ¬ x4 = 0 then 143 else 139) [aD p0, aI x1, aI x2, aI x3, aI x4] none [] h := by
  refine (s_go mt_X10_readOperand dX10_readOperand_134 rfl).trans ?_
  exact q_if mt_X10_readOperand dX10_readOperand_136 (fun _ _ _ _ => rfl) rfl
theorem e_X10_readOperand_139 (sc : SC) (p0 : Nat) (x1 : Int32) (x2 : Int32) (x3 : Int32) (x4 : Int32) (h : AH) : Run sc n_X10_readOperand 139 [aD p0, aI x1, aI x2, aI x3, aI x4] none [] h = bI (rOK sc h (aD p0) 12 = true) (bC (Call sc n_X10_fault [aD p0] h) (fun v z => Run sc n_X10_readOperand 143 [aD p0, aI x1, aI x2, aI x3, aI x4] none (v.toList ++ []) z) (fun E z => some (.inr E, z))) := by
  refine (s_go mt_X10_readOperand dX10_readOperand_139 rfl).trans ?_
  exact q_cV mt_X10_readOperand dX10_readOperand_140 rfl mt_X10_fault rfl rfl rfl
theorem e_X10_readOperand_143 (sc : SC) (p0 : Nat) (x1 : Int32) (x2 : Int32) (x3 : Int32) (x4 : Int32) (h : AH) : Run sc n_X10_readOperand 143 [aD p0, aI x1, aI x2, aI x3, aI x4] none [] h = Run sc n_X10_readOperand (if x2 = 0 then 152 else 147) [aD p0, aI x1, aI x2, aI x3, aI x4] none [] h := by
  refine (s_go mt_X10_readOperand dX10_readOperand_143 rfl).trans ?_
  exact q_if mt_X10_readOperand dX10_readOperand_144 (fun _ _ _ _ => rfl) rfl
theorem e_X10_readOperand_147 (sc : SC) (p0 : Nat) (x1 : Int32) (x2 : Int32) (x3 : Int32) (x4 : Int32) (h : AH) : Run sc n_X10_readOperand 147 [aD p0, aI x1, aI x2, aI x3, aI x4] none [] h = Run sc n_X10_readOperand 153 [aD p0, aI x1, aI x2, aI x3, aI x4] none [aI (-x3)] h := by
  refine (s_go mt_X10_readOperand dX10_readOperand_147 rfl).trans ?_
  refine (s_go mt_X10_readOperand dX10_readOperand_148 rfl).trans ?_
  refine (s_go mt_X10_readOperand dX10_readOperand_149 rfl).trans ?_
  exact rfl
theorem e_X10_readOperand_152 (sc : SC) (p0 : Nat) (x1 : Int32) (x2 : Int32) (x3 : Int32) (x4 : Int32) (h : AH) : Run sc n_X10_readOperand 152 [aD p0, aI x1, aI x2, aI x3, aI x4] none [] h = Run sc n_X10_readOperand 153 [aD p0, aI x1, aI x2, aI x3, aI x4] none [aI x3] h := by
  refine (s_go mt_X10_readOperand dX10_readOperand_152 rfl).trans ?_
  exact rfl
theorem e_X10_readOperand_153 (sc : SC) (p0 : Nat) (x1 : Int32) (x2 : Int32) (x3 : Int32) (x4 : Int32) (y0 : Int32) (h : AH) : Run sc n_X10_readOperand 153 [aD p0, aI x1, aI x2, aI x3, aI x4] none [aI y0] h = some (.inl (some (aI y0)), h) := by
  exact q_ret (c := (some (aI y0), h)) mt_X10_readOperand dX10_readOperand_153 rfl
theorem e_X10_readOperand_4 (sc : SC) (p0 : Nat) (x1 : Int32) (v2 : AV) (v3 : AV) (v4 : AV) (y0 : Int32) (h : AH) : Run sc n_X10_readOperand 4 [aD p0, aI x1, v2, v3, v4] none [aI y0] h = Run sc n_X10_readOperand (if ¬ y0 = (-1) then 30 else 8) [aD p0, aI x1, v2, v3, v4] none [] h := by
  refine (s_go mt_X10_readOperand dX10_readOperand_4 rfl).trans ?_
  exact q_icmp mt_X10_readOperand dX10_readOperand_5 (fun _ _ _ _ => rfl) rfl
theorem e_X10_readOperand_12 (sc : SC) (p0 : Nat) (x1 : Int32) (v2 : AV) (v3 : AV) (v4 : AV) (y0 : Int32) (h : AH) : Run sc n_X10_readOperand 12 [aD p0, aI x1, v2, v3, v4] none [aI y0] h = Run sc n_X10_readOperand (if ¬ y0 = (nI 32) then 30 else 17) [aD p0, aI x1, v2, v3, v4] none [] h := by
  refine (s_go mt_X10_readOperand dX10_readOperand_12 rfl).trans ?_
  exact q_icmp mt_X10_readOperand dX10_readOperand_14 (fun _ _ _ _ => rfl) rfl
theorem e_X10_readOperand_22 (sc : SC) (p0 : Nat) (x1 : Int32) (v2 : AV) (v3 : AV) (v4 : AV) (q0 : Nat) (y1 : Int32) (h : AH) : Run sc n_X10_readOperand 22 [aD p0, aI x1, v2, v3, v4] none [aI y1, aD q0] h = bO (putF h q0 12 9 0 (aI (y1 + (nI 1)))) (fun z => Run sc n_X10_readOperand 27 [aD p0, aI x1, v2, v3, v4] none [] z) := by
  refine (s_go mt_X10_readOperand dX10_readOperand_22 rfl).trans ?_
  refine (s_go mt_X10_readOperand dX10_readOperand_23 rfl).trans ?_
  exact q_putfield mt_X10_readOperand dX10_readOperand_24 rfl rfl rfl rfl
theorem e_X10_readOperand_38 (sc : SC) (p0 : Nat) (x1 : Int32) (v2 : AV) (v3 : AV) (v4 : AV) (y0 : Int32) (h : AH) : Run sc n_X10_readOperand 38 [aD p0, aI x1, v2, v3, v4] none [aI y0] h = Run sc n_X10_readOperand (if ¬ y0 = (-1) then 59 else 42) [aD p0, aI x1, v2, v3, v4] none [] h := by
  refine (s_go mt_X10_readOperand dX10_readOperand_38 rfl).trans ?_
  exact q_icmp mt_X10_readOperand dX10_readOperand_39 (fun _ _ _ _ => rfl) rfl
theorem e_X10_readOperand_50 (sc : SC) (p0 : Nat) (x1 : Int32) (v2 : AV) (v3 : AV) (v4 : AV) (y0 : Int32) (h : AH) : Run sc n_X10_readOperand 50 [aD p0, aI x1, v2, v3, v4] none [aI y0] h = Run sc n_X10_readOperand (if ¬ y0 = (nI 45) then 59 else 55) [aD p0, aI x1, v2, v3, v4] none [] h := by
  refine (s_go mt_X10_readOperand dX10_readOperand_50 rfl).trans ?_
  exact q_icmp mt_X10_readOperand dX10_readOperand_52 (fun _ _ _ _ => rfl) rfl
theorem e_X10_readOperand_66 (sc : SC) (p0 : Nat) (x1 : Int32) (x2 : Int32) (v3 : AV) (v4 : AV) (q0 : Nat) (y1 : Int32) (h : AH) : Run sc n_X10_readOperand 66 [aD p0, aI x1, aI x2, v3, v4] none [aI y1, aD q0] h = Run sc n_X10_readOperand (if x2 = 0 then 74 else 70) [aD p0, aI x1, aI x2, v3, v4] none [aI y1, aD q0] h := by
  refine (s_go mt_X10_readOperand dX10_readOperand_66 rfl).trans ?_
  exact q_if mt_X10_readOperand dX10_readOperand_67 (fun _ _ _ _ => rfl) rfl
theorem e_X10_readOperand_79 (sc : SC) (p0 : Nat) (x1 : Int32) (x2 : Int32) (v3 : AV) (v4 : AV) (h : AH) : Run sc n_X10_readOperand 79 [aD p0, aI x1, aI x2, v3, v4] none [] h = Run sc n_X10_readOperand 84 [aD p0, aI x1, aI x2, aI (nI 0), aI (nI 0)] none [] h := by
  refine (s_go mt_X10_readOperand dX10_readOperand_79 rfl).trans ?_
  refine (s_go mt_X10_readOperand dX10_readOperand_80 rfl).trans ?_
  refine (s_go mt_X10_readOperand dX10_readOperand_81 rfl).trans ?_
  refine (s_go mt_X10_readOperand dX10_readOperand_82 rfl).trans ?_
  exact rfl
theorem e_X10_readOperand_88 (sc : SC) (p0 : Nat) (x1 : Int32) (x2 : Int32) (x3 : Int32) (x4 : Int32) (y0 : Int32) (h : AH) : Run sc n_X10_readOperand 88 [aD p0, aI x1, aI x2, aI x3, aI x4] none [aI y0] h = Run sc n_X10_readOperand (if ¬ y0 = (-1) then 134 else 92) [aD p0, aI x1, aI x2, aI x3, aI x4] none [] h := by
  refine (s_go mt_X10_readOperand dX10_readOperand_88 rfl).trans ?_
  exact q_icmp mt_X10_readOperand dX10_readOperand_89 (fun _ _ _ _ => rfl) rfl
theorem e_X10_readOperand_102 (sc : SC) (p0 : Nat) (x1 : Int32) (x2 : Int32) (x3 : Int32) (x4 : Int32) (y0 : Int32) (h : AH) : Run sc n_X10_readOperand 102 [aD p0, aI x1, aI x2, aI x3, aI x4] none [aI y0] h = Run sc n_X10_readOperand (if y0 = 0 then 134 else 105) [aD p0, aI x1, aI x2, aI x3, aI x4] none [] h := by
  exact q_if mt_X10_readOperand dX10_readOperand_102 (fun _ _ _ _ => rfl) rfl
theorem e_X10_readOperand_113 (sc : SC) (p0 : Nat) (x1 : Int32) (x2 : Int32) (x3 : Int32) (x4 : Int32) (y0 : Int32) (y1 : Int32) (h : AH) : Run sc n_X10_readOperand 113 [aD p0, aI x1, aI x2, aI x3, aI x4] none [aI y1, aI y0] h = bF (getF sc h (aD p0) 12 9) (fun z => Run sc n_X10_readOperand 126 [aD p0, aI x1, aI x2, aI ((y0 + y1) - (nI 48)), aI (x4 + nI 1)] none [z, aD p0] h) := by
  refine (s_go mt_X10_readOperand dX10_readOperand_113 rfl).trans ?_
  refine (s_go mt_X10_readOperand dX10_readOperand_114 rfl).trans ?_
  refine (s_go mt_X10_readOperand dX10_readOperand_116 rfl).trans ?_
  refine (s_go mt_X10_readOperand dX10_readOperand_117 rfl).trans ?_
  refine (s_go mt_X10_readOperand dX10_readOperand_118 rfl).trans ?_
  refine (s_go mt_X10_readOperand dX10_readOperand_121 rfl).trans ?_
  refine (s_go mt_X10_readOperand dX10_readOperand_122 rfl).trans ?_
  exact q_getfield mt_X10_readOperand dX10_readOperand_123 rfl
theorem e_X10_readOperand_27 (sc : SC) (p0 : Nat) (x1 : Int32) (v2 : AV) (v3 : AV) (v4 : AV) (h : AH) : Run sc n_X10_readOperand 27 [aD p0, aI x1, v2, v3, v4] none [] h = Run sc n_X10_readOperand 34 [aD p0, aI x1, v2, v3, v4] none [] h := by
  refine (s_go mt_X10_readOperand dX10_readOperand_27 rfl).trans ?_
  exact rfl
theorem e_X10_readOperand_126 (sc : SC) (p0 : Nat) (x1 : Int32) (x2 : Int32) (x3 : Int32) (x4 : Int32) (q0 : Nat) (y1 : Int32) (h : AH) : Run sc n_X10_readOperand 126 [aD p0, aI x1, aI x2, aI x3, aI x4] none [aI y1, aD q0] h = bO (putF h q0 12 9 0 (aI (y1 + (nI 1)))) (fun z => Run sc n_X10_readOperand 131 [aD p0, aI x1, aI x2, aI x3, aI x4] none [] z) := by
  refine (s_go mt_X10_readOperand dX10_readOperand_126 rfl).trans ?_
  refine (s_go mt_X10_readOperand dX10_readOperand_127 rfl).trans ?_
  exact q_putfield mt_X10_readOperand dX10_readOperand_128 rfl rfl rfl rfl
theorem e_X10_readOperand_131 (sc : SC) (p0 : Nat) (x1 : Int32) (x2 : Int32) (x3 : Int32) (x4 : Int32) (h : AH) : Run sc n_X10_readOperand 131 [aD p0, aI x1, aI x2, aI x3, aI x4] none [] h = Run sc n_X10_readOperand 84 [aD p0, aI x1, aI x2, aI x3, aI x4] none [] h := by
  refine (s_go mt_X10_readOperand dX10_readOperand_131 rfl).trans ?_
  exact rfl
/-! BranchSlotFillerModel.readInstruction()V -/
theorem e_X10_readInstruction_0 (sc : SC) (p0 : Nat) (v1 : AV) (v2 : AV) (v3 : AV) (v4 : AV) (h : AH) : Run sc n_X10_readInstruction 0 [aD p0, v1, v2, v3, v4] none [] h = bF (getF sc h (aD p0) 12 9) (fun z => Run sc n_X10_readInstruction 5 [aD p0, v1, v2, v3, v4] none [z, aD p0] h) := by
  refine (s_go mt_X10_readInstruction dX10_readInstruction_0 rfl).trans ?_
  refine (s_go mt_X10_readInstruction dX10_readInstruction_1 rfl).trans ?_
  exact q_getfield mt_X10_readInstruction dX10_readInstruction_2 rfl
theorem e_X10_readInstruction_14 (sc : SC) (p0 : Nat) (x1 : Int32) (v2 : AV) (v3 : AV) (v4 : AV) (h : AH) : Run sc n_X10_readInstruction 14 [aD p0, aI x1, v2, v3, v4] none [] h = bI (rOK sc h (aD p0) 12 = true) (bC (Call sc n_X10_fault [aD p0] h) (fun v z => Run sc n_X10_readInstruction 18 [aD p0, aI x1, v2, v3, v4] none (v.toList ++ []) z) (fun E z => some (.inr E, z))) := by
  refine (s_go mt_X10_readInstruction dX10_readInstruction_14 rfl).trans ?_
  exact q_cV mt_X10_readInstruction dX10_readInstruction_15 rfl mt_X10_fault rfl rfl rfl
theorem e_X10_readInstruction_19 (sc : SC) (p0 : Nat) (x1 : Int32) (v2 : AV) (v3 : AV) (v4 : AV) (h : AH) : Run sc n_X10_readInstruction 19 [aD p0, aI x1, v2, v3, v4] none [] h = bF (getF sc h (aD p0) 12 9) (fun z => Run sc n_X10_readInstruction 24 [aD p0, aI x1, v2, v3, v4] none [z, aD p0] h) := by
  refine (s_go mt_X10_readInstruction dX10_readInstruction_19 rfl).trans ?_
  refine (s_go mt_X10_readInstruction dX10_readInstruction_20 rfl).trans ?_
  exact q_getfield mt_X10_readInstruction dX10_readInstruction_21 rfl
theorem e_X10_readInstruction_54 (sc : SC) (p0 : Nat) (x1 : Int32) (x2 : Int32) (x3 : Int32) (x4 : Int32) (h : AH) : Run sc n_X10_readInstruction 54 [aD p0, aI x1, aI x2, aI x3, aI x4] none [] h = Run sc n_X10_readInstruction (if (nI 3) ≤ x4 then 119 else 60) [aD p0, aI x1, aI x2, aI x3, aI x4] none [] h := by
  refine (s_go mt_X10_readInstruction dX10_readInstruction_54 rfl).trans ?_
  refine (s_go mt_X10_readInstruction dX10_readInstruction_56 rfl).trans ?_
  exact q_icmp mt_X10_readInstruction dX10_readInstruction_57 (fun _ _ _ _ => rfl) rfl
theorem e_X10_readInstruction_60 (sc : SC) (p0 : Nat) (x1 : Int32) (x2 : Int32) (x3 : Int32) (x4 : Int32) (h : AH) : Run sc n_X10_readInstruction 60 [aD p0, aI x1, aI x2, aI x3, aI x4] none [] h = bF (getF sc h (aD p0) 12 11) (fun z => Run sc n_X10_readInstruction 64 [aD p0, aI x1, aI x2, aI x3, aI x4] none [z] h) := by
  refine (s_go mt_X10_readInstruction dX10_readInstruction_60 rfl).trans ?_
  exact q_getfield mt_X10_readInstruction dX10_readInstruction_61 rfl
theorem e_X10_readInstruction_80 (sc : SC) (p0 : Nat) (x1 : Int32) (x2 : Int32) (x3 : Int32) (x4 : Int32) (q0 : Nat) (y1 : Int32) (h : AH) : Run sc n_X10_readInstruction 80 [aD p0, aI x1, aI x2, aI x3, aI x4] none [aI y1, aD q0] h = bF (getF sc h (aD p0) 12 10) (fun z => Run sc n_X10_readInstruction 84 [aD p0, aI x1, aI x2, aI x3, aI x4] none [z, aI y1, aD q0] h) := by
  refine (s_go mt_X10_readInstruction dX10_readInstruction_80 rfl).trans ?_
  exact q_getfield mt_X10_readInstruction dX10_readInstruction_81 rfl
theorem e_X10_readInstruction_88 (sc : SC) (p0 : Nat) (x1 : Int32) (x2 : Int32) (x3 : Int32) (x4 : Int32) (q0 : Nat) (y1 : Int32) (h : AH) : Run sc n_X10_readInstruction 88 [aD p0, aI x1, aI x2, aI x3, aI x4] none [aI y1, aD q0] h = Run sc n_X10_readInstruction (if ¬ x1 = (nI 1) then 104 else 94) [aD p0, aI x1, aI x2, aI x3, aI x4] none [aD p0, aI y1, aD q0] h := by
  refine (s_go mt_X10_readInstruction dX10_readInstruction_88 rfl).trans ?_
  refine (s_go mt_X10_readInstruction dX10_readInstruction_89 rfl).trans ?_
  refine (s_go mt_X10_readInstruction dX10_readInstruction_90 rfl).trans ?_
  exact q_icmp mt_X10_readInstruction dX10_readInstruction_91 (fun _ _ _ _ => rfl) rfl
theorem e_X10_readInstruction_94 (sc : SC) (p0 : Nat) (x1 : Int32) (x2 : Int32) (x3 : Int32) (x4 : Int32) (q0 : Nat) (y1 : Int32) (q2 : Nat) (h : AH) : Run sc n_X10_readInstruction 94 [aD p0, aI x1, aI x2, aI x3, aI x4] none [aD q2, aI y1, aD q0] h = Run sc n_X10_readInstruction (if ¬ x4 = (nI 2) then 104 else 100) [aD p0, aI x1, aI x2, aI x3, aI x4] none [aD q2, aI y1, aD q0] h := by
  refine (s_go mt_X10_readInstruction dX10_readInstruction_94 rfl).trans ?_
  refine (s_go mt_X10_readInstruction dX10_readInstruction_96 rfl).trans ?_
  exact q_icmp mt_X10_readInstruction dX10_readInstruction_97 (fun _ _ _ _ => rfl) rfl
theorem e_X10_readInstruction_100 (sc : SC) (p0 : Nat) (x1 : Int32) (x2 : Int32) (x3 : Int32) (x4 : Int32) (q0 : Nat) (y1 : Int32) (q2 : Nat) (h : AH) : Run sc n_X10_readInstruction 100 [aD p0, aI x1, aI x2, aI x3, aI x4] none [aD q2, aI y1, aD q0] h = Run sc n_X10_readInstruction 105 [aD p0, aI x1, aI x2, aI x3, aI x4] none [aI (nI 1), aD q2, aI y1, aD q0] h := by
  refine (s_go mt_X10_readInstruction dX10_readInstruction_100 rfl).trans ?_
  refine (s_go mt_X10_readInstruction dX10_readInstruction_101 rfl).trans ?_
  exact rfl
theorem e_X10_readInstruction_104 (sc : SC) (p0 : Nat) (x1 : Int32) (x2 : Int32) (x3 : Int32) (x4 : Int32) (q0 : Nat) (y1 : Int32) (q2 : Nat) (h : AH) : Run sc n_X10_readInstruction 104 [aD p0, aI x1, aI x2, aI x3, aI x4] none [aD q2, aI y1, aD q0] h = Run sc n_X10_readInstruction 105 [aD p0, aI x1, aI x2, aI x3, aI x4] none [aI (nI 0), aD q2, aI y1, aD q0] h := by
  refine (s_go mt_X10_readInstruction dX10_readInstruction_104 rfl).trans ?_
  exact rfl
theorem e_X10_readInstruction_105 (sc : SC) (p0 : Nat) (x1 : Int32) (x2 : Int32) (x3 : Int32) (x4 : Int32) (q0 : Nat) (y1 : Int32) (q2 : Nat) (y3 : Int32) (h : AH) : Run sc n_X10_readInstruction 105 [aD p0, aI x1, aI x2, aI x3, aI x4] none [aI y3, aD q2, aI y1, aD q0] h = bI (rOK sc h (aD q2) 12 = true) (bC (Call sc n_X10_readOperand [aD q2, aI y3] h) (fun v z => Run sc n_X10_readInstruction 108 [aD p0, aI x1, aI x2, aI x3, aI x4] none (v.toList ++ [aI y1, aD q0]) z) (fun E z => some (.inr E, z))) := by
  exact q_cV mt_X10_readInstruction dX10_readInstruction_105 rfl mt_X10_readOperand rfl rfl rfl
theorem e_X10_readInstruction_111 (sc : SC) (p0 : Nat) (x1 : Int32) (x2 : Int32) (x3 : Int32) (x4 : Int32) (q0 : Nat) (y1 : Int32) (h : AH) : Run sc n_X10_readInstruction 111 [aD p0, aI x1, aI x2, aI x3, aI x4] none [aI y1, aD q0] h = Run sc n_X10_readInstruction 112 [aD p0, aI x1, aI x2, aI x3, aI x4] none [aI (nI 0), aI y1, aD q0] h := by
  refine (s_go mt_X10_readInstruction dX10_readInstruction_111 rfl).trans ?_
  exact rfl
theorem e_X10_readInstruction_112 (sc : SC) (p0 : Nat) (x1 : Int32) (x2 : Int32) (x3 : Int32) (x4 : Int32) (q0 : Nat) (y1 : Int32) (y2 : Int32) (h : AH) : Run sc n_X10_readInstruction 112 [aD p0, aI x1, aI x2, aI x3, aI x4] none [aI y2, aI y1, aD q0] h = bO (stI h (fun t => t == 0) q0 y1 y2) (fun z => Run sc n_X10_readInstruction 113 [aD p0, aI x1, aI x2, aI x3, aI x4] none [] z) := by
  exact q_iastore mt_X10_readInstruction dX10_readInstruction_112
theorem e_X10_readInstruction_119 (sc : SC) (p0 : Nat) (x1 : Int32) (x2 : Int32) (x3 : Int32) (x4 : Int32) (h : AH) : Run sc n_X10_readInstruction 119 [aD p0, aI x1, aI x2, aI x3, aI x4] none [] h = bF (getF sc h (aD p0) 12 12) (fun z => Run sc n_X10_readInstruction 124 [aD p0, aI x1, aI x2, aI x3, aI x4] none [z, aD p0] h) := by
  refine (s_go mt_X10_readInstruction dX10_readInstruction_119 rfl).trans ?_
  refine (s_go mt_X10_readInstruction dX10_readInstruction_120 rfl).trans ?_
  exact q_getfield mt_X10_readInstruction dX10_readInstruction_121 rfl
theorem e_X10_readInstruction_5 (sc : SC) (p0 : Nat) (v1 : AV) (v2 : AV) (v3 : AV) (v4 : AV) (q0 : Nat) (y1 : Int32) (h : AH) : Run sc n_X10_readInstruction 5 [aD p0, v1, v2, v3, v4] none [aI y1, aD q0] h = bI (rOK sc h (aD q0) 12 = true) (bC (Call sc n_X10_kindAt [aD q0, aI y1] h) (fun v z => Run sc n_X10_readInstruction 8 [aD p0, v1, v2, v3, v4] none (v.toList ++ []) z) (fun E z => some (.inr E, z))) := by
  exact q_cV mt_X10_readInstruction dX10_readInstruction_5 rfl mt_X10_kindAt rfl rfl rfl
theorem e_X10_readInstruction_18 (sc : SC) (p0 : Nat) (x1 : Int32) (v2 : AV) (v3 : AV) (v4 : AV) (h : AH) : Run sc n_X10_readInstruction 18 [aD p0, aI x1, v2, v3, v4] none [] h = some (.inl none, h) := by
  exact q_ret (c := (none, h)) mt_X10_readInstruction dX10_readInstruction_18 rfl
theorem e_X10_readInstruction_24 (sc : SC) (p0 : Nat) (x1 : Int32) (v2 : AV) (v3 : AV) (v4 : AV) (q0 : Nat) (y1 : Int32) (h : AH) : Run sc n_X10_readInstruction 24 [aD p0, aI x1, v2, v3, v4] none [aI y1, aD q0] h = bC (Call sc n_X10_nameLength [aI x1] h) (fun v z => Run sc n_X10_readInstruction 28 [aD p0, aI x1, v2, v3, v4] none (v.toList ++ [aI y1, aD q0]) z) (fun E z => some (.inr E, z)) := by
  refine (s_go mt_X10_readInstruction dX10_readInstruction_24 rfl).trans ?_
  exact q_cS mt_X10_readInstruction dX10_readInstruction_25 rfl mt_X10_nameLength rfl rfl
theorem e_X10_readInstruction_64 (sc : SC) (p0 : Nat) (x1 : Int32) (x2 : Int32) (x3 : Int32) (x4 : Int32) (q0 : Nat) (h : AH) : Run sc n_X10_readInstruction 64 [aD p0, aI x1, aI x2, aI x3, aI x4] none [aD q0] h = Run sc n_X10_readInstruction (if ¬ ((x2 >>> (x4 &&& 31)) &&& (nI 1)) = (nI 1) then 111 else 80) [aD p0, aI x1, aI x2, aI x3, aI x4] none [aI ((x3 + (nI 1)) + x4), aD q0] h := by
  refine (s_go mt_X10_readInstruction dX10_readInstruction_64 rfl).trans ?_
  refine (s_go mt_X10_readInstruction dX10_readInstruction_65 rfl).trans ?_
  refine (s_go mt_X10_readInstruction dX10_readInstruction_66 rfl).trans ?_
  refine (s_go mt_X10_readInstruction dX10_readInstruction_67 rfl).trans ?_
  refine (s_go mt_X10_readInstruction dX10_readInstruction_69 rfl).trans ?_
  refine (s_go mt_X10_readInstruction dX10_readInstruction_70 rfl).trans ?_
  refine (s_go mt_X10_readInstruction dX10_readInstruction_71 rfl).trans ?_
  refine (s_go mt_X10_readInstruction dX10_readInstruction_73 rfl).trans ?_
  refine (s_go mt_X10_readInstruction dX10_readInstruction_74 rfl).trans ?_
  refine (s_go mt_X10_readInstruction dX10_readInstruction_75 rfl).trans ?_
  refine (s_go mt_X10_readInstruction dX10_readInstruction_76 rfl).trans ?_
  exact q_icmp mt_X10_readInstruction dX10_readInstruction_77 (fun _ _ _ _ => rfl) rfl
theorem e_X10_readInstruction_84 (sc : SC) (p0 : Nat) (x1 : Int32) (x2 : Int32) (x3 : Int32) (x4 : Int32) (q0 : Nat) (y1 : Int32) (y2 : Int32) (h : AH) : Run sc n_X10_readInstruction 84 [aD p0, aI x1, aI x2, aI x3, aI x4] none [aI y2, aI y1, aD q0] h = Run sc n_X10_readInstruction (if ¬ y2 = (-1) then 111 else 88) [aD p0, aI x1, aI x2, aI x3, aI x4] none [aI y1, aD q0] h := by
  refine (s_go mt_X10_readInstruction dX10_readInstruction_84 rfl).trans ?_
  exact q_icmp mt_X10_readInstruction dX10_readInstruction_85 (fun _ _ _ _ => rfl) rfl
theorem e_X10_readInstruction_108 (sc : SC) (p0 : Nat) (x1 : Int32) (x2 : Int32) (x3 : Int32) (x4 : Int32) (q0 : Nat) (y1 : Int32) (y2 : Int32) (h : AH) : Run sc n_X10_readInstruction 108 [aD p0, aI x1, aI x2, aI x3, aI x4] none [aI y2, aI y1, aD q0] h = Run sc n_X10_readInstruction 112 [aD p0, aI x1, aI x2, aI x3, aI x4] none [aI y2, aI y1, aD q0] h := by
  refine (s_go mt_X10_readInstruction dX10_readInstruction_108 rfl).trans ?_
  exact rfl
theorem e_X10_readInstruction_113 (sc : SC) (p0 : Nat) (x1 : Int32) (x2 : Int32) (x3 : Int32) (x4 : Int32) (h : AH) : Run sc n_X10_readInstruction 113 [aD p0, aI x1, aI x2, aI x3, aI x4] none [] h = Run sc n_X10_readInstruction 54 [aD p0, aI x1, aI x2, aI x3, aI (x4 + nI 1)] none [] h := by
  refine (s_go mt_X10_readInstruction dX10_readInstruction_113 rfl).trans ?_
  refine (s_go mt_X10_readInstruction dX10_readInstruction_116 rfl).trans ?_
  exact rfl
theorem e_X10_readInstruction_124 (sc : SC) (p0 : Nat) (x1 : Int32) (x2 : Int32) (x3 : Int32) (x4 : Int32) (q0 : Nat) (y1 : Int32) (h : AH) : Run sc n_X10_readInstruction 124 [aD p0, aI x1, aI x2, aI x3, aI x4] none [aI y1, aD q0] h = bO (putF h q0 12 12 0 (aI (y1 + (nI 1)))) (fun z => Run sc n_X10_readInstruction 129 [aD p0, aI x1, aI x2, aI x3, aI x4] none [] z) := by
  refine (s_go mt_X10_readInstruction dX10_readInstruction_124 rfl).trans ?_
  refine (s_go mt_X10_readInstruction dX10_readInstruction_125 rfl).trans ?_
  exact q_putfield mt_X10_readInstruction dX10_readInstruction_126 rfl rfl rfl rfl
theorem e_X10_readInstruction_8 (sc : SC) (p0 : Nat) (v1 : AV) (v2 : AV) (v3 : AV) (v4 : AV) (y0 : Int32) (h : AH) : Run sc n_X10_readInstruction 8 [aD p0, v1, v2, v3, v4] none [aI y0] h = Run sc n_X10_readInstruction (if ¬ y0 = (-1) then 19 else 14) [aD p0, aI y0, v2, v3, v4] none [] h := by
  refine (s_go mt_X10_readInstruction dX10_readInstruction_8 rfl).trans ?_
  refine (s_go mt_X10_readInstruction dX10_readInstruction_9 rfl).trans ?_
  refine (s_go mt_X10_readInstruction dX10_readInstruction_10 rfl).trans ?_
  exact q_icmp mt_X10_readInstruction dX10_readInstruction_11 (fun _ _ _ _ => rfl) rfl
theorem e_X10_readInstruction_28 (sc : SC) (p0 : Nat) (x1 : Int32) (v2 : AV) (v3 : AV) (v4 : AV) (q0 : Nat) (y1 : Int32) (y2 : Int32) (h : AH) : Run sc n_X10_readInstruction 28 [aD p0, aI x1, v2, v3, v4] none [aI y2, aI y1, aD q0] h = bO (putF h q0 12 9 0 (aI (y1 + y2))) (fun z => Run sc n_X10_readInstruction 32 [aD p0, aI x1, v2, v3, v4] none [] z) := by
  refine (s_go mt_X10_readInstruction dX10_readInstruction_28 rfl).trans ?_
  exact q_putfield mt_X10_readInstruction dX10_readInstruction_29 rfl rfl rfl rfl
theorem e_X10_readInstruction_129 (sc : SC) (p0 : Nat) (x1 : Int32) (x2 : Int32) (x3 : Int32) (x4 : Int32) (h : AH) : Run sc n_X10_readInstruction 129 [aD p0, aI x1, aI x2, aI x3, aI x4] none [] h = some (.inl none, h) := by
  exact q_ret (c := (none, h)) mt_X10_readInstruction dX10_readInstruction_129 rfl
theorem e_X10_readInstruction_32 (sc : SC) (p0 : Nat) (x1 : Int32) (v2 : AV) (v3 : AV) (v4 : AV) (h : AH) : Run sc n_X10_readInstruction 32 [aD p0, aI x1, v2, v3, v4] none [] h = bC (Call sc n_X10_operandsOf [aI x1] h) (fun v z => Run sc n_X10_readInstruction 36 [aD p0, aI x1, v2, v3, v4] none (v.toList ++ []) z) (fun E z => some (.inr E, z)) := by
  refine (s_go mt_X10_readInstruction dX10_readInstruction_32 rfl).trans ?_
  exact q_cS mt_X10_readInstruction dX10_readInstruction_33 rfl mt_X10_operandsOf rfl rfl
theorem e_X10_readInstruction_36 (sc : SC) (p0 : Nat) (x1 : Int32) (v2 : AV) (v3 : AV) (v4 : AV) (y0 : Int32) (h : AH) : Run sc n_X10_readInstruction 36 [aD p0, aI x1, v2, v3, v4] none [aI y0] h = bF (getF sc h (aD p0) 12 12) (fun z => Run sc n_X10_readInstruction 42 [aD p0, aI x1, aI y0, v3, v4] none [z, aI (nI 4)] h) := by
  refine (s_go mt_X10_readInstruction dX10_readInstruction_36 rfl).trans ?_
  refine (s_go mt_X10_readInstruction dX10_readInstruction_37 rfl).trans ?_
  refine (s_go mt_X10_readInstruction dX10_readInstruction_38 rfl).trans ?_
  exact q_getfield mt_X10_readInstruction dX10_readInstruction_39 rfl
theorem e_X10_readInstruction_42 (sc : SC) (p0 : Nat) (x1 : Int32) (x2 : Int32) (v3 : AV) (v4 : AV) (y0 : Int32) (y1 : Int32) (h : AH) : Run sc n_X10_readInstruction 42 [aD p0, aI x1, aI x2, v3, v4] none [aI y1, aI y0] h = bF (getF sc h (aD p0) 12 11) (fun z => Run sc n_X10_readInstruction 48 [aD p0, aI x1, aI x2, aI (y0 * y1), v4] none [z] h) := by
  refine (s_go mt_X10_readInstruction dX10_readInstruction_42 rfl).trans ?_
  refine (s_go mt_X10_readInstruction dX10_readInstruction_43 rfl).trans ?_
  refine (s_go mt_X10_readInstruction dX10_readInstruction_44 rfl).trans ?_
  exact q_getfield mt_X10_readInstruction dX10_readInstruction_45 rfl
theorem e_X10_readInstruction_48 (sc : SC) (p0 : Nat) (x1 : Int32) (x2 : Int32) (x3 : Int32) (v4 : AV) (q0 : Nat) (h : AH) : Run sc n_X10_readInstruction 48 [aD p0, aI x1, aI x2, aI x3, v4] none [aD q0] h = bO (stI h (fun t => t == 0) q0 x3 x1) (fun z => Run sc n_X10_readInstruction 51 [aD p0, aI x1, aI x2, aI x3, v4] none [] z) := by
  refine (s_go mt_X10_readInstruction dX10_readInstruction_48 rfl).trans ?_
  refine (s_go mt_X10_readInstruction dX10_readInstruction_49 rfl).trans ?_
  exact q_iastore mt_X10_readInstruction dX10_readInstruction_50
theorem e_X10_readInstruction_51 (sc : SC) (p0 : Nat) (x1 : Int32) (x2 : Int32) (x3 : Int32) (v4 : AV) (h : AH) : Run sc n_X10_readInstruction 51 [aD p0, aI x1, aI x2, aI x3, v4] none [] h = Run sc n_X10_readInstruction 54 [aD p0, aI x1, aI x2, aI x3, aI (nI 0)] none [] h := by
  refine (s_go mt_X10_readInstruction dX10_readInstruction_51 rfl).trans ?_
  refine (s_go mt_X10_readInstruction dX10_readInstruction_52 rfl).trans ?_
  exact rfl
/-! BranchSlotFillerModel.isBranch(I)Z -/
theorem e_X10_isBranch_0 (sc : SC) (x0 : Int32) (h : AH) : Run sc n_X10_isBranch 0 [aI x0] none [] h = bC (Call sc n_X10_isIn [aI x0, aI (nI 8), aI (nI 10)] h) (fun v z => Run sc n_X10_isBranch 8 [aI x0] none (v.toList ++ []) z) (fun E z => some (.inr E, z)) := by
  refine (s_go mt_X10_isBranch dX10_isBranch_0 rfl).trans ?_
  refine (s_go mt_X10_isBranch dX10_isBranch_1 rfl).trans ?_
  refine (s_go mt_X10_isBranch dX10_isBranch_3 rfl).trans ?_
  exact q_cS mt_X10_isBranch dX10_isBranch_5 rfl mt_X10_isIn rfl rfl
theorem e_X10_isBranch_8 (sc : SC) (x0 : Int32) (y0 : Int32) (h : AH) : Run sc n_X10_isBranch 8 [aI x0] none [aI y0] h = bI (retK (some FieldType.boolean) y0 = true) (some (.inl (some (aI y0)), h)) := by
  exact q_iret mt_X10_isBranch dX10_isBranch_8
/-! BranchSlotFillerModel.isGood(I)Z -/
theorem e_X10_isGood_0 (sc : SC) (p0 : Nat) (x1 : Int32) (v2 : AV) (v3 : AV) (h : AH) : Run sc n_X10_isGood 0 [aD p0, aI x1, v2, v3] none [] h = bF (getF sc h (aD p0) 12 11) (fun z => Run sc n_X10_isGood 4 [aD p0, aI x1, v2, v3] none [z] h) := by
  refine (s_go mt_X10_isGood dX10_isGood_0 rfl).trans ?_
  exact q_getfield mt_X10_isGood dX10_isGood_1 rfl
theorem e_X10_isGood_12 (sc : SC) (p0 : Nat) (x1 : Int32) (x2 : Int32) (v3 : AV) (h : AH) : Run sc n_X10_isGood 12 [aD p0, aI x1, aI x2, v3] none [] h = Run sc n_X10_isGood (if ¬ x2 = (nI 4) then 34 else 17) [aD p0, aI x1, aI x2, v3] none [] h := by
  refine (s_go mt_X10_isGood dX10_isGood_12 rfl).trans ?_
  refine (s_go mt_X10_isGood dX10_isGood_13 rfl).trans ?_
  exact q_icmp mt_X10_isGood dX10_isGood_14 (fun _ _ _ _ => rfl) rfl
theorem e_X10_isGood_17 (sc : SC) (p0 : Nat) (x1 : Int32) (x2 : Int32) (v3 : AV) (h : AH) : Run sc n_X10_isGood 17 [aD p0, aI x1, aI x2, v3] none [] h = bF (getF sc h (aD p0) 12 11) (fun z => Run sc n_X10_isGood 21 [aD p0, aI x1, aI x2, v3] none [z] h) := by
  refine (s_go mt_X10_isGood dX10_isGood_17 rfl).trans ?_
  exact q_getfield mt_X10_isGood dX10_isGood_18 rfl
theorem e_X10_isGood_34 (sc : SC) (p0 : Nat) (x1 : Int32) (x2 : Int32) (v3 : AV) (h : AH) : Run sc n_X10_isGood 34 [aD p0, aI x1, aI x2, v3] none [] h = Run sc n_X10_isGood (if x2 = (nI 5) then 45 else 39) [aD p0, aI x1, aI x2, v3] none [] h := by
  refine (s_go mt_X10_isGood dX10_isGood_34 rfl).trans ?_
  refine (s_go mt_X10_isGood dX10_isGood_35 rfl).trans ?_
  exact q_icmp mt_X10_isGood dX10_isGood_36 (fun _ _ _ _ => rfl) rfl
theorem e_X10_isGood_39 (sc : SC) (p0 : Nat) (x1 : Int32) (x2 : Int32) (v3 : AV) (h : AH) : Run sc n_X10_isGood 39 [aD p0, aI x1, aI x2, v3] none [] h = Run sc n_X10_isGood (if ¬ x2 = (nI 6) then 62 else 45) [aD p0, aI x1, aI x2, v3] none [] h := by
  refine (s_go mt_X10_isGood dX10_isGood_39 rfl).trans ?_
  refine (s_go mt_X10_isGood dX10_isGood_40 rfl).trans ?_
  exact q_icmp mt_X10_isGood dX10_isGood_42 (fun _ _ _ _ => rfl) rfl
theorem e_X10_isGood_45 (sc : SC) (p0 : Nat) (x1 : Int32) (x2 : Int32) (v3 : AV) (h : AH) : Run sc n_X10_isGood 45 [aD p0, aI x1, aI x2, v3] none [] h = bF (getF sc h (aD p0) 12 11) (fun z => Run sc n_X10_isGood 49 [aD p0, aI x1, aI x2, v3] none [z] h) := by
  refine (s_go mt_X10_isGood dX10_isGood_45 rfl).trans ?_
  exact q_getfield mt_X10_isGood dX10_isGood_46 rfl
theorem e_X10_isGood_62 (sc : SC) (p0 : Nat) (x1 : Int32) (x2 : Int32) (v3 : AV) (h : AH) : Run sc n_X10_isGood 62 [aD p0, aI x1, aI x2, v3] none [] h = bC (Call sc n_X10_isBranch [aI x2] h) (fun v z => Run sc n_X10_isGood 66 [aD p0, aI x1, aI x2, v3] none (v.toList ++ []) z) (fun E z => some (.inr E, z)) := by
  refine (s_go mt_X10_isGood dX10_isGood_62 rfl).trans ?_
  exact q_cS mt_X10_isGood dX10_isGood_63 rfl mt_X10_isBranch rfl rfl
theorem e_X10_isGood_69 (sc : SC) (p0 : Nat) (x1 : Int32) (x2 : Int32) (v3 : AV) (h : AH) : Run sc n_X10_isGood 69 [aD p0, aI x1, aI x2, v3] none [] h = bF (getF sc h (aD p0) 12 11) (fun z => Run sc n_X10_isGood 73 [aD p0, aI x1, aI x2, v3] none [z] h) := by
  refine (s_go mt_X10_isGood dX10_isGood_69 rfl).trans ?_
  exact q_getfield mt_X10_isGood dX10_isGood_70 rfl
theorem e_X10_isGood_84 (sc : SC) (p0 : Nat) (x1 : Int32) (x2 : Int32) (v3 : AV) (h : AH) : Run sc n_X10_isGood 84 [aD p0, aI x1, aI x2, v3] none [] h = Run sc n_X10_isGood 89 [aD p0, aI x1, aI x2, v3] none [aI (nI 1)] h := by
  refine (s_go mt_X10_isGood dX10_isGood_84 rfl).trans ?_
  refine (s_go mt_X10_isGood dX10_isGood_85 rfl).trans ?_
  exact rfl
theorem e_X10_isGood_88 (sc : SC) (p0 : Nat) (x1 : Int32) (x2 : Int32) (v3 : AV) (h : AH) : Run sc n_X10_isGood 88 [aD p0, aI x1, aI x2, v3] none [] h = Run sc n_X10_isGood 89 [aD p0, aI x1, aI x2, v3] none [aI (nI 0)] h := by
  refine (s_go mt_X10_isGood dX10_isGood_88 rfl).trans ?_
  exact rfl
theorem e_X10_isGood_89 (sc : SC) (p0 : Nat) (x1 : Int32) (x2 : Int32) (v3 : AV) (y0 : Int32) (h : AH) : Run sc n_X10_isGood 89 [aD p0, aI x1, aI x2, v3] none [aI y0] h = Run sc n_X10_isGood (if y0 = 0 then 124 else 94) [aD p0, aI x1, aI x2, aI y0] none [] h := by
  refine (s_go mt_X10_isGood dX10_isGood_89 rfl).trans ?_
  refine (s_go mt_X10_isGood dX10_isGood_90 rfl).trans ?_
  exact q_if mt_X10_isGood dX10_isGood_91 (fun _ _ _ _ => rfl) rfl
theorem e_X10_isGood_94 (sc : SC) (p0 : Nat) (x1 : Int32) (x2 : Int32) (x3 : Int32) (h : AH) : Run sc n_X10_isGood 94 [aD p0, aI x1, aI x2, aI x3] none [] h = bF (getF sc h (aD p0) 12 11) (fun z => Run sc n_X10_isGood 98 [aD p0, aI x1, aI x2, aI x3] none [z] h) := by
  refine (s_go mt_X10_isGood dX10_isGood_94 rfl).trans ?_
  exact q_getfield mt_X10_isGood dX10_isGood_95 rfl
theorem e_X10_isGood_107 (sc : SC) (p0 : Nat) (x1 : Int32) (x2 : Int32) (x3 : Int32) (h : AH) : Run sc n_X10_isGood 107 [aD p0, aI x1, aI x2, aI x3] none [] h = bF (getF sc h (aD p0) 12 11) (fun z => Run sc n_X10_isGood 111 [aD p0, aI x1, aI x2, aI x3] none [z] h) := by
  refine (s_go mt_X10_isGood dX10_isGood_107 rfl).trans ?_
  exact q_getfield mt_X10_isGood dX10_isGood_108 rfl
theorem e_X10_isGood_120 (sc : SC) (p0 : Nat) (x1 : Int32) (x2 : Int32) (x3 : Int32) (h : AH) : Run sc n_X10_isGood 120 [aD p0, aI x1, aI x2, aI x3] none [] h = Run sc n_X10_isGood 125 [aD p0, aI x1, aI x2, aI x3] none [aI (nI 1)] h := by
  refine (s_go mt_X10_isGood dX10_isGood_120 rfl).trans ?_
  refine (s_go mt_X10_isGood dX10_isGood_121 rfl).trans ?_
  exact rfl
theorem e_X10_isGood_124 (sc : SC) (p0 : Nat) (x1 : Int32) (x2 : Int32) (x3 : Int32) (h : AH) : Run sc n_X10_isGood 124 [aD p0, aI x1, aI x2, aI x3] none [] h = Run sc n_X10_isGood 125 [aD p0, aI x1, aI x2, aI x3] none [aI (nI 0)] h := by
  refine (s_go mt_X10_isGood dX10_isGood_124 rfl).trans ?_
  exact rfl
theorem e_X10_isGood_125 (sc : SC) (p0 : Nat) (x1 : Int32) (x2 : Int32) (x3 : Int32) (y0 : Int32) (h : AH) : Run sc n_X10_isGood 125 [aD p0, aI x1, aI x2, aI x3] none [aI y0] h = bI (retK (some FieldType.boolean) y0 = true) (some (.inl (some (aI y0)), h)) := by
  exact q_iret mt_X10_isGood dX10_isGood_125
theorem e_X10_isGood_4 (sc : SC) (p0 : Nat) (x1 : Int32) (v2 : AV) (v3 : AV) (q0 : Nat) (h : AH) : Run sc n_X10_isGood 4 [aD p0, aI x1, v2, v3] none [aD q0] h = bO (ldI sc h (fun t => t == 0) (aD q0) x1) (fun z => Run sc n_X10_isGood 6 [aD p0, aI x1, v2, v3] none [aI z] h) := by
  refine (s_go mt_X10_isGood dX10_isGood_4 rfl).trans ?_
  exact q_iaload mt_X10_isGood dX10_isGood_5
theorem e_X10_isGood_21 (sc : SC) (p0 : Nat) (x1 : Int32) (x2 : Int32) (v3 : AV) (q0 : Nat) (h : AH) : Run sc n_X10_isGood 21 [aD p0, aI x1, aI x2, v3] none [aD q0] h = bO (ldI sc h (fun t => t == 0) (aD q0) (x1 + (nI 3))) (fun z => Run sc n_X10_isGood 25 [aD p0, aI x1, aI x2, v3] none [aI z] h) := by
  refine (s_go mt_X10_isGood dX10_isGood_21 rfl).trans ?_
  refine (s_go mt_X10_isGood dX10_isGood_22 rfl).trans ?_
  refine (s_go mt_X10_isGood dX10_isGood_23 rfl).trans ?_
  exact q_iaload mt_X10_isGood dX10_isGood_24
theorem e_X10_isGood_49 (sc : SC) (p0 : Nat) (x1 : Int32) (x2 : Int32) (v3 : AV) (q0 : Nat) (h : AH) : Run sc n_X10_isGood 49 [aD p0, aI x1, aI x2, v3] none [aD q0] h = bO (ldI sc h (fun t => t == 0) (aD q0) (x1 + (nI 3))) (fun z => Run sc n_X10_isGood 53 [aD p0, aI x1, aI x2, v3] none [aI z] h) := by
  refine (s_go mt_X10_isGood dX10_isGood_49 rfl).trans ?_
  refine (s_go mt_X10_isGood dX10_isGood_50 rfl).trans ?_
  refine (s_go mt_X10_isGood dX10_isGood_51 rfl).trans ?_
  exact q_iaload mt_X10_isGood dX10_isGood_52
theorem e_X10_isGood_66 (sc : SC) (p0 : Nat) (x1 : Int32) (x2 : Int32) (v3 : AV) (y0 : Int32) (h : AH) : Run sc n_X10_isGood 66 [aD p0, aI x1, aI x2, v3] none [aI y0] h = Run sc n_X10_isGood (if y0 = 0 then 84 else 69) [aD p0, aI x1, aI x2, v3] none [] h := by
  exact q_if mt_X10_isGood dX10_isGood_66 (fun _ _ _ _ => rfl) rfl
theorem e_X10_isGood_73 (sc : SC) (p0 : Nat) (x1 : Int32) (x2 : Int32) (v3 : AV) (q0 : Nat) (h : AH) : Run sc n_X10_isGood 73 [aD p0, aI x1, aI x2, v3] none [aD q0] h = bO (ldI sc h (fun t => t == 0) (aD q0) (x1 + (nI 3))) (fun z => Run sc n_X10_isGood 77 [aD p0, aI x1, aI x2, v3] none [aI z] h) := by
  refine (s_go mt_X10_isGood dX10_isGood_73 rfl).trans ?_
  refine (s_go mt_X10_isGood dX10_isGood_74 rfl).trans ?_
  refine (s_go mt_X10_isGood dX10_isGood_75 rfl).trans ?_
  exact q_iaload mt_X10_isGood dX10_isGood_76
theorem e_X10_isGood_98 (sc : SC) (p0 : Nat) (x1 : Int32) (x2 : Int32) (x3 : Int32) (q0 : Nat) (h : AH) : Run sc n_X10_isGood 98 [aD p0, aI x1, aI x2, aI x3] none [aD q0] h = bO (ldI sc h (fun t => t == 0) (aD q0) (x1 + (nI 1))) (fun z => Run sc n_X10_isGood 102 [aD p0, aI x1, aI x2, aI x3] none [aI z] h) := by
  refine (s_go mt_X10_isGood dX10_isGood_98 rfl).trans ?_
  refine (s_go mt_X10_isGood dX10_isGood_99 rfl).trans ?_
  refine (s_go mt_X10_isGood dX10_isGood_100 rfl).trans ?_
  exact q_iaload mt_X10_isGood dX10_isGood_101
theorem e_X10_isGood_111 (sc : SC) (p0 : Nat) (x1 : Int32) (x2 : Int32) (x3 : Int32) (q0 : Nat) (h : AH) : Run sc n_X10_isGood 111 [aD p0, aI x1, aI x2, aI x3] none [aD q0] h = bO (ldI sc h (fun t => t == 0) (aD q0) (x1 + (nI 2))) (fun z => Run sc n_X10_isGood 115 [aD p0, aI x1, aI x2, aI x3] none [aI z] h) := by
  refine (s_go mt_X10_isGood dX10_isGood_111 rfl).trans ?_
  refine (s_go mt_X10_isGood dX10_isGood_112 rfl).trans ?_
  refine (s_go mt_X10_isGood dX10_isGood_113 rfl).trans ?_
  exact q_iaload mt_X10_isGood dX10_isGood_114
theorem e_X10_isGood_6 (sc : SC) (p0 : Nat) (x1 : Int32) (v2 : AV) (v3 : AV) (y0 : Int32) (h : AH) : Run sc n_X10_isGood 6 [aD p0, aI x1, v2, v3] none [aI y0] h = Run sc n_X10_isGood (if y0 = (nI 3) then 17 else 12) [aD p0, aI x1, aI y0, v3] none [] h := by
  refine (s_go mt_X10_isGood dX10_isGood_6 rfl).trans ?_
  refine (s_go mt_X10_isGood dX10_isGood_7 rfl).trans ?_
  refine (s_go mt_X10_isGood dX10_isGood_8 rfl).trans ?_
  exact q_icmp mt_X10_isGood dX10_isGood_9 (fun _ _ _ _ => rfl) rfl
theorem e_X10_isGood_25 (sc : SC) (p0 : Nat) (x1 : Int32) (x2 : Int32) (v3 : AV) (y0 : Int32) (h : AH) : Run sc n_X10_isGood 25 [aD p0, aI x1, aI x2, v3] none [aI y0] h = bC (Call sc n_X10_isIn [aI y0, aI (nI 0), aI (nI 7)] h) (fun v z => Run sc n_X10_isGood 31 [aD p0, aI x1, aI x2, v3] none (v.toList ++ []) z) (fun E z => some (.inr E, z)) := by
  refine (s_go mt_X10_isGood dX10_isGood_25 rfl).trans ?_
  refine (s_go mt_X10_isGood dX10_isGood_26 rfl).trans ?_
  exact q_cS mt_X10_isGood dX10_isGood_28 rfl mt_X10_isIn rfl rfl
theorem e_X10_isGood_53 (sc : SC) (p0 : Nat) (x1 : Int32) (x2 : Int32) (v3 : AV) (y0 : Int32) (h : AH) : Run sc n_X10_isGood 53 [aD p0, aI x1, aI x2, v3] none [aI y0] h = bC (Call sc n_X10_isIn [aI y0, aI (nI 0), aI (nI 15)] h) (fun v z => Run sc n_X10_isGood 59 [aD p0, aI x1, aI x2, v3] none (v.toList ++ []) z) (fun E z => some (.inr E, z)) := by
  refine (s_go mt_X10_isGood dX10_isGood_53 rfl).trans ?_
  refine (s_go mt_X10_isGood dX10_isGood_54 rfl).trans ?_
  exact q_cS mt_X10_isGood dX10_isGood_56 rfl mt_X10_isIn rfl rfl
theorem e_X10_isGood_77 (sc : SC) (p0 : Nat) (x1 : Int32) (x2 : Int32) (v3 : AV) (y0 : Int32) (h : AH) : Run sc n_X10_isGood 77 [aD p0, aI x1, aI x2, v3] none [aI y0] h = bF (getF sc h (aD p0) 12 12) (fun z => Run sc n_X10_isGood 81 [aD p0, aI x1, aI x2, v3] none [z, aI y0] h) := by
  refine (s_go mt_X10_isGood dX10_isGood_77 rfl).trans ?_
  exact q_getfield mt_X10_isGood dX10_isGood_78 rfl
theorem e_X10_isGood_102 (sc : SC) (p0 : Nat) (x1 : Int32) (x2 : Int32) (x3 : Int32) (y0 : Int32) (h : AH) : Run sc n_X10_isGood 102 [aD p0, aI x1, aI x2, aI x3] none [aI y0] h = Run sc n_X10_isGood (if (nI 8) ≤ y0 then 124 else 107) [aD p0, aI x1, aI x2, aI x3] none [] h := by
  refine (s_go mt_X10_isGood dX10_isGood_102 rfl).trans ?_
  exact q_icmp mt_X10_isGood dX10_isGood_104 (fun _ _ _ _ => rfl) rfl
theorem e_X10_isGood_115 (sc : SC) (p0 : Nat) (x1 : Int32) (x2 : Int32) (x3 : Int32) (y0 : Int32) (h : AH) : Run sc n_X10_isGood 115 [aD p0, aI x1, aI x2, aI x3] none [aI y0] h = Run sc n_X10_isGood (if (nI 8) ≤ y0 then 124 else 120) [aD p0, aI x1, aI x2, aI x3] none [] h := by
  refine (s_go mt_X10_isGood dX10_isGood_115 rfl).trans ?_
  exact q_icmp mt_X10_isGood dX10_isGood_117 (fun _ _ _ _ => rfl) rfl
theorem e_X10_isGood_31 (sc : SC) (p0 : Nat) (x1 : Int32) (x2 : Int32) (v3 : AV) (y0 : Int32) (h : AH) : Run sc n_X10_isGood 31 [aD p0, aI x1, aI x2, v3] none [aI y0] h = Run sc n_X10_isGood 89 [aD p0, aI x1, aI x2, v3] none [aI y0] h := by
  refine (s_go mt_X10_isGood dX10_isGood_31 rfl).trans ?_
  exact rfl
theorem e_X10_isGood_59 (sc : SC) (p0 : Nat) (x1 : Int32) (x2 : Int32) (v3 : AV) (y0 : Int32) (h : AH) : Run sc n_X10_isGood 59 [aD p0, aI x1, aI x2, v3] none [aI y0] h = Run sc n_X10_isGood 89 [aD p0, aI x1, aI x2, v3] none [aI y0] h := by
  refine (s_go mt_X10_isGood dX10_isGood_59 rfl).trans ?_
  exact rfl
theorem e_X10_isGood_81 (sc : SC) (p0 : Nat) (x1 : Int32) (x2 : Int32) (v3 : AV) (y0 : Int32) (y1 : Int32) (h : AH) : Run sc n_X10_isGood 81 [aD p0, aI x1, aI x2, v3] none [aI y1, aI y0] h = Run sc n_X10_isGood (if y1 < y0 then 88 else 84) [aD p0, aI x1, aI x2, v3] none [] h := by
  exact q_icmp mt_X10_isGood dX10_isGood_81 (fun _ _ _ _ => rfl) rfl
/-! BranchSlotFillerModel.parse()I -/
theorem e_X10_parse_0 (sc : SC) (p0 : Nat) (v1 : AV) (v2 : AV) (v3 : AV) (v4 : AV) (h : AH) : Run sc n_X10_parse 0 [aD p0, v1, v2, v3, v4] none [] h = bO (putF h p0 12 0 0 (aI (nI 0))) (fun z => Run sc n_X10_parse 5 [aD p0, v1, v2, v3, v4] none [] z) := by
  refine (s_go mt_X10_parse dX10_parse_0 rfl).trans ?_
  refine (s_go mt_X10_parse dX10_parse_1 rfl).trans ?_
  exact q_putfield mt_X10_parse dX10_parse_2 rfl rfl rfl rfl
theorem e_X10_parse_40 (sc : SC) (p0 : Nat) (v1 : AV) (v2 : AV) (v3 : AV) (v4 : AV) (h : AH) : Run sc n_X10_parse 40 [aD p0, v1, v2, v3, v4] none [] h = bI (rOK sc h (aD p0) 12 = true) (bC (Call sc n_X10_readInstruction [aD p0] h) (fun v z => Run sc n_X10_parse 44 [aD p0, v1, v2, v3, v4] none (v.toList ++ []) z) (fun E z => some (.inr E, z))) := by
  refine (s_go mt_X10_parse dX10_parse_40 rfl).trans ?_
  exact q_cV mt_X10_parse dX10_parse_41 rfl mt_X10_readInstruction rfl rfl rfl
theorem e_X10_parse_44 (sc : SC) (p0 : Nat) (v1 : AV) (v2 : AV) (v3 : AV) (v4 : AV) (h : AH) : Run sc n_X10_parse 44 [aD p0, v1, v2, v3, v4] none [] h = bF (getF sc h (aD p0) 12 10) (fun z => Run sc n_X10_parse 48 [aD p0, v1, v2, v3, v4] none [z] h) := by
  refine (s_go mt_X10_parse dX10_parse_44 rfl).trans ?_
  exact q_getfield mt_X10_parse dX10_parse_45 rfl
theorem e_X10_parse_52 (sc : SC) (p0 : Nat) (v1 : AV) (v2 : AV) (v3 : AV) (v4 : AV) (h : AH) : Run sc n_X10_parse 52 [aD p0, v1, v2, v3, v4] none [] h = bI (rOK sc h (aD p0) 12 = true) (bC (Call sc n_X10_sign [aD p0] h) (fun v z => Run sc n_X10_parse 56 [aD p0, v1, v2, v3, v4] none (v.toList ++ []) z) (fun E z => some (.inr E, z))) := by
  refine (s_go mt_X10_parse dX10_parse_52 rfl).trans ?_
  exact q_cV mt_X10_parse dX10_parse_53 rfl mt_X10_sign rfl rfl rfl
theorem e_X10_parse_61 (sc : SC) (p0 : Nat) (v1 : AV) (v2 : AV) (v3 : AV) (v4 : AV) (h : AH) : Run sc n_X10_parse 61 [aD p0, v1, v2, v3, v4] none [] h = bF (getF sc h (aD p0) 12 9) (fun z => Run sc n_X10_parse 66 [aD p0, v1, v2, v3, v4] none [z, aD p0] h) := by
  refine (s_go mt_X10_parse dX10_parse_61 rfl).trans ?_
  refine (s_go mt_X10_parse dX10_parse_62 rfl).trans ?_
  exact q_getfield mt_X10_parse dX10_parse_63 rfl
theorem e_X10_parse_78 (sc : SC) (p0 : Nat) (v1 : AV) (v2 : AV) (v3 : AV) (v4 : AV) (h : AH) : Run sc n_X10_parse 78 [aD p0, v1, v2, v3, v4] none [] h = bF (getF sc h (aD p0) 12 9) (fun z => Run sc n_X10_parse 82 [aD p0, v1, v2, v3, v4] none [z] h) := by
  refine (s_go mt_X10_parse dX10_parse_78 rfl).trans ?_
  exact q_getfield mt_X10_parse dX10_parse_79 rfl
theorem e_X10_parse_89 (sc : SC) (p0 : Nat) (v1 : AV) (v2 : AV) (v3 : AV) (v4 : AV) (h : AH) : Run sc n_X10_parse 89 [aD p0, v1, v2, v3, v4] none [] h = bI (rOK sc h (aD p0) 12 = true) (bC (Call sc n_X10_fault [aD p0] h) (fun v z => Run sc n_X10_parse 93 [aD p0, v1, v2, v3, v4] none (v.toList ++ []) z) (fun E z => some (.inr E, z))) := by
  refine (s_go mt_X10_parse dX10_parse_89 rfl).trans ?_
  exact q_cV mt_X10_parse dX10_parse_90 rfl mt_X10_fault rfl rfl rfl
theorem e_X10_parse_93 (sc : SC) (p0 : Nat) (v1 : AV) (v2 : AV) (v3 : AV) (v4 : AV) (h : AH) : Run sc n_X10_parse 93 [aD p0, v1, v2, v3, v4] none [] h = bF (getF sc h (aD p0) 12 10) (fun z => Run sc n_X10_parse 97 [aD p0, v1, v2, v3, v4] none [z] h) := by
  refine (s_go mt_X10_parse dX10_parse_93 rfl).trans ?_
  exact q_getfield mt_X10_parse dX10_parse_94 rfl
theorem e_X10_parse_101 (sc : SC) (p0 : Nat) (v1 : AV) (v2 : AV) (v3 : AV) (v4 : AV) (h : AH) : Run sc n_X10_parse 101 [aD p0, v1, v2, v3, v4] none [] h = bF (getF sc h (aD p0) 12 10) (fun z => Run sc n_X10_parse 107 [aD p0, v1, v2, v3, v4] none [z, aI (-100)] h) := by
  refine (s_go mt_X10_parse dX10_parse_101 rfl).trans ?_
  refine (s_go mt_X10_parse dX10_parse_103 rfl).trans ?_
  exact q_getfield mt_X10_parse dX10_parse_104 rfl
theorem e_X10_parse_109 (sc : SC) (p0 : Nat) (v1 : AV) (v2 : AV) (v3 : AV) (v4 : AV) (h : AH) : Run sc n_X10_parse 109 [aD p0, v1, v2, v3, v4] none [] h = Run sc n_X10_parse 113 [aD p0, aI (nI 1), aI (nI 0), v3, v4] none [] h := by
  refine (s_go mt_X10_parse dX10_parse_109 rfl).trans ?_
  refine (s_go mt_X10_parse dX10_parse_110 rfl).trans ?_
  refine (s_go mt_X10_parse dX10_parse_111 rfl).trans ?_
  refine (s_go mt_X10_parse dX10_parse_112 rfl).trans ?_
  exact rfl
theorem e_X10_parse_113 (sc : SC) (p0 : Nat) (x1 : Int32) (x2 : Int32) (v3 : AV) (v4 : AV) (h : AH) : Run sc n_X10_parse 113 [aD p0, aI x1, aI x2, v3, v4] none [] h = bF (getF sc h (aD p0) 12 12) (fun z => Run sc n_X10_parse 118 [aD p0, aI x1, aI x2, v3, v4] none [z, aI x2] h) := by
  refine (s_go mt_X10_parse dX10_parse_113 rfl).trans ?_
  refine (s_go mt_X10_parse dX10_parse_114 rfl).trans ?_
  exact q_getfield mt_X10_parse dX10_parse_115 rfl
theorem e_X10_parse_121 (sc : SC) (p0 : Nat) (x1 : Int32) (x2 : Int32) (v3 : AV) (v4 : AV) (h : AH) : Run sc n_X10_parse 121 [aD p0, aI x1, aI x2, v3, v4] none [] h = Run sc n_X10_parse (if x1 = 0 then 139 else 125) [aD p0, aI x1, aI x2, v3, v4] none [] h := by
  refine (s_go mt_X10_parse dX10_parse_121 rfl).trans ?_
  exact q_if mt_X10_parse dX10_parse_122 (fun _ _ _ _ => rfl) rfl
theorem e_X10_parse_125 (sc : SC) (p0 : Nat) (x1 : Int32) (x2 : Int32) (v3 : AV) (v4 : AV) (h : AH) : Run sc n_X10_parse 125 [aD p0, aI x1, aI x2, v3, v4] none [] h = bI (rOK sc h (aD p0) 12 = true) (bC (Call sc n_X10_isGood [aD p0, aI ((nI 4) * x2)] h) (fun v z => Run sc n_X10_parse 132 [aD p0, aI x1, aI x2, v3, v4] none (v.toList ++ []) z) (fun E z => some (.inr E, z))) := by
  refine (s_go mt_X10_parse dX10_parse_125 rfl).trans ?_
  refine (s_go mt_X10_parse dX10_parse_126 rfl).trans ?_
  refine (s_go mt_X10_parse dX10_parse_127 rfl).trans ?_
  refine (s_go mt_X10_parse dX10_parse_128 rfl).trans ?_
  exact q_cV mt_X10_parse dX10_parse_129 rfl mt_X10_isGood rfl rfl rfl
theorem e_X10_parse_135 (sc : SC) (p0 : Nat) (x1 : Int32) (x2 : Int32) (v3 : AV) (v4 : AV) (h : AH) : Run sc n_X10_parse 135 [aD p0, aI x1, aI x2, v3, v4] none [] h = Run sc n_X10_parse 140 [aD p0, aI x1, aI x2, v3, v4] none [aI (nI 1)] h := by
  refine (s_go mt_X10_parse dX10_parse_135 rfl).trans ?_
  refine (s_go mt_X10_parse dX10_parse_136 rfl).trans ?_
  exact rfl
theorem e_X10_parse_139 (sc : SC) (p0 : Nat) (x1 : Int32) (x2 : Int32) (v3 : AV) (v4 : AV) (h : AH) : Run sc n_X10_parse 139 [aD p0, aI x1, aI x2, v3, v4] none [] h = Run sc n_X10_parse 140 [aD p0, aI x1, aI x2, v3, v4] none [aI (nI 0)] h := by
  refine (s_go mt_X10_parse dX10_parse_139 rfl).trans ?_
  exact rfl
theorem e_X10_parse_140 (sc : SC) (p0 : Nat) (x1 : Int32) (x2 : Int32) (v3 : AV) (v4 : AV) (y0 : Int32) (h : AH) : Run sc n_X10_parse 140 [aD p0, aI x1, aI x2, v3, v4] none [aI y0] h = Run sc n_X10_parse 113 [aD p0, aI y0, aI (x2 + nI 1), v3, v4] none [] h := by
  refine (s_go mt_X10_parse dX10_parse_140 rfl).trans ?_
  refine (s_go mt_X10_parse dX10_parse_141 rfl).trans ?_
  refine (s_go mt_X10_parse dX10_parse_144 rfl).trans ?_
  exact rfl
theorem e_X10_parse_147 (sc : SC) (p0 : Nat) (x1 : Int32) (x2 : Int32) (v3 : AV) (v4 : AV) (h : AH) : Run sc n_X10_parse 147 [aD p0, aI x1, aI x2, v3, v4] none [] h = Run sc n_X10_parse (if ¬ x1 = 0 then 157 else 151) [aD p0, aI x1, aI x2, v3, v4] none [] h := by
  refine (s_go mt_X10_parse dX10_parse_147 rfl).trans ?_
  exact q_if mt_X10_parse dX10_parse_148 (fun _ _ _ _ => rfl) rfl
theorem e_X10_parse_151 (sc : SC) (p0 : Nat) (x1 : Int32) (x2 : Int32) (v3 : AV) (v4 : AV) (h : AH) : Run sc n_X10_parse 151 [aD p0, aI x1, aI x2, v3, v4] none [] h = bI (rOK sc h (aD p0) 12 = true) (bC (Call sc n_X10_fail [aD p0, aI (nI 1)] h) (fun v z => Run sc n_X10_parse 156 [aD p0, aI x1, aI x2, v3, v4] none (v.toList ++ []) z) (fun E z => some (.inr E, z))) := by
  refine (s_go mt_X10_parse dX10_parse_151 rfl).trans ?_
  refine (s_go mt_X10_parse dX10_parse_152 rfl).trans ?_
  exact q_cV mt_X10_parse dX10_parse_153 rfl mt_X10_fail rfl rfl rfl
theorem e_X10_parse_157 (sc : SC) (p0 : Nat) (x1 : Int32) (x2 : Int32) (v3 : AV) (v4 : AV) (h : AH) : Run sc n_X10_parse 157 [aD p0, aI x1, aI x2, v3, v4] none [] h = bF (getF sc h (aD p0) 12 2) (fun z => Run sc n_X10_parse 161 [aD p0, aI x1, aI x2, v3, v4] none [z] h) := by
  refine (s_go mt_X10_parse dX10_parse_157 rfl).trans ?_
  exact q_getfield mt_X10_parse dX10_parse_158 rfl
theorem e_X10_parse_171 (sc : SC) (p0 : Nat) (x1 : Int32) (x2 : Int32) (v3 : AV) (v4 : AV) (h : AH) : Run sc n_X10_parse 171 [aD p0, aI x1, aI x2, v3, v4] none [] h = bI (rOK sc h (aD p0) 12 = true) (bC (Call sc n_X10_fail [aD p0, aI (nI 2)] h) (fun v z => Run sc n_X10_parse 176 [aD p0, aI x1, aI x2, v3, v4] none (v.toList ++ []) z) (fun E z => some (.inr E, z))) := by
  refine (s_go mt_X10_parse dX10_parse_171 rfl).trans ?_
  refine (s_go mt_X10_parse dX10_parse_172 rfl).trans ?_
  exact q_cV mt_X10_parse dX10_parse_173 rfl mt_X10_fail rfl rfl rfl
theorem e_X10_parse_177 (sc : SC) (p0 : Nat) (x1 : Int32) (x2 : Int32) (v3 : AV) (v4 : AV) (h : AH) : Run sc n_X10_parse 177 [aD p0, aI x1, aI x2, v3, v4] none [] h = bF (getF sc h (aD p0) 12 2) (fun z => Run sc n_X10_parse 181 [aD p0, aI x1, aI x2, v3, v4] none [z] h) := by
  refine (s_go mt_X10_parse dX10_parse_177 rfl).trans ?_
  exact q_getfield mt_X10_parse dX10_parse_178 rfl
theorem e_X10_parse_184 (sc : SC) (p0 : Nat) (x1 : Int32) (x2 : Int32) (x3 : Int32) (v4 : AV) (h : AH) : Run sc n_X10_parse 184 [aD p0, aI x1, aI x2, aI x3, v4] none [] h = bF (getF sc h (aD p0) 12 12) (fun z => Run sc n_X10_parse 189 [aD p0, aI x1, aI x2, aI x3, v4] none [z, aI x3] h) := by
  refine (s_go mt_X10_parse dX10_parse_184 rfl).trans ?_
  refine (s_go mt_X10_parse dX10_parse_185 rfl).trans ?_
  exact q_getfield mt_X10_parse dX10_parse_186 rfl
theorem e_X10_parse_192 (sc : SC) (p0 : Nat) (x1 : Int32) (x2 : Int32) (x3 : Int32) (v4 : AV) (h : AH) : Run sc n_X10_parse 192 [aD p0, aI x1, aI x2, aI x3, v4] none [] h = Run sc n_X10_parse 195 [aD p0, aI x1, aI x2, aI x3, aI (nI 0)] none [] h := by
  refine (s_go mt_X10_parse dX10_parse_192 rfl).trans ?_
  refine (s_go mt_X10_parse dX10_parse_193 rfl).trans ?_
  exact rfl
theorem e_X10_parse_195 (sc : SC) (p0 : Nat) (x1 : Int32) (x2 : Int32) (x3 : Int32) (x4 : Int32) (h : AH) : Run sc n_X10_parse 195 [aD p0, aI x1, aI x2, aI x3, aI x4] none [] h = Run sc n_X10_parse (if (nI 4) ≤ x4 then 257 else 201) [aD p0, aI x1, aI x2, aI x3, aI x4] none [] h := by
  refine (s_go mt_X10_parse dX10_parse_195 rfl).trans ?_
  refine (s_go mt_X10_parse dX10_parse_197 rfl).trans ?_
  exact q_icmp mt_X10_parse dX10_parse_198 (fun _ _ _ _ => rfl) rfl
theorem e_X10_parse_201 (sc : SC) (p0 : Nat) (x1 : Int32) (x2 : Int32) (x3 : Int32) (x4 : Int32) (h : AH) : Run sc n_X10_parse 201 [aD p0, aI x1, aI x2, aI x3, aI x4] none [] h = bF (getF sc h (aD p0) 12 1) (fun z => Run sc n_X10_parse 205 [aD p0, aI x1, aI x2, aI x3, aI x4] none [z] h) := by
  refine (s_go mt_X10_parse dX10_parse_201 rfl).trans ?_
  exact q_getfield mt_X10_parse dX10_parse_202 rfl
theorem e_X10_parse_230 (sc : SC) (p0 : Nat) (x1 : Int32) (x2 : Int32) (x3 : Int32) (x4 : Int32) (q0 : Nat) (y1 : Int32) (y2 : Int32) (h : AH) : Run sc n_X10_parse 230 [aD p0, aI x1, aI x2, aI x3, aI x4] none [aI y2, aI y1, aD q0] h = bF (getF sc h (aD p0) 12 11) (fun z => Run sc n_X10_parse 234 [aD p0, aI x1, aI x2, aI x3, aI x4] none [z, aI y2, aI y1, aD q0] h) := by
  refine (s_go mt_X10_parse dX10_parse_230 rfl).trans ?_
  exact q_getfield mt_X10_parse dX10_parse_231 rfl
theorem e_X10_parse_244 (sc : SC) (p0 : Nat) (x1 : Int32) (x2 : Int32) (x3 : Int32) (x4 : Int32) (q0 : Nat) (y1 : Int32) (y2 : Int32) (h : AH) : Run sc n_X10_parse 244 [aD p0, aI x1, aI x2, aI x3, aI x4] none [aI y2, aI y1, aD q0] h = Run sc n_X10_parse 249 [aD p0, aI x1, aI x2, aI x3, aI x4] none [aI x2, aI y2, aI y1, aD q0] h := by
  refine (s_go mt_X10_parse dX10_parse_244 rfl).trans ?_
  refine (s_go mt_X10_parse dX10_parse_245 rfl).trans ?_
  exact rfl
theorem e_X10_parse_248 (sc : SC) (p0 : Nat) (x1 : Int32) (x2 : Int32) (x3 : Int32) (x4 : Int32) (q0 : Nat) (y1 : Int32) (y2 : Int32) (h : AH) : Run sc n_X10_parse 248 [aD p0, aI x1, aI x2, aI x3, aI x4] none [aI y2, aI y1, aD q0] h = Run sc n_X10_parse 249 [aD p0, aI x1, aI x2, aI x3, aI x4] none [aI (nI 0), aI y2, aI y1, aD q0] h := by
  refine (s_go mt_X10_parse dX10_parse_248 rfl).trans ?_
  exact rfl
theorem e_X10_parse_249 (sc : SC) (p0 : Nat) (x1 : Int32) (x2 : Int32) (x3 : Int32) (x4 : Int32) (q0 : Nat) (y1 : Int32) (y2 : Int32) (y3 : Int32) (h : AH) : Run sc n_X10_parse 249 [aD p0, aI x1, aI x2, aI x3, aI x4] none [aI y3, aI y2, aI y1, aD q0] h = bO (stI h (fun t => t == 0) q0 y1 (y2 + y3)) (fun z => Run sc n_X10_parse 251 [aD p0, aI x1, aI x2, aI x3, aI x4] none [] z) := by
  refine (s_go mt_X10_parse dX10_parse_249 rfl).trans ?_
  exact q_iastore mt_X10_parse dX10_parse_250
theorem e_X10_parse_257 (sc : SC) (p0 : Nat) (x1 : Int32) (x2 : Int32) (x3 : Int32) (x4 : Int32) (h : AH) : Run sc n_X10_parse 257 [aD p0, aI x1, aI x2, aI x3, aI x4] none [] h = Run sc n_X10_parse 184 [aD p0, aI x1, aI x2, aI (x3 + nI 1), aI x4] none [] h := by
  refine (s_go mt_X10_parse dX10_parse_257 rfl).trans ?_
  refine (s_go mt_X10_parse dX10_parse_260 rfl).trans ?_
  exact rfl
theorem e_X10_parse_263 (sc : SC) (p0 : Nat) (x1 : Int32) (x2 : Int32) (x3 : Int32) (v4 : AV) (h : AH) : Run sc n_X10_parse 263 [aD p0, aI x1, aI x2, aI x3, v4] none [] h = bF (getF sc h (aD p0) 12 2) (fun z => Run sc n_X10_parse 268 [aD p0, aI x1, aI x2, aI x3, v4] none [z, aD p0] h) := by
  refine (s_go mt_X10_parse dX10_parse_263 rfl).trans ?_
  refine (s_go mt_X10_parse dX10_parse_264 rfl).trans ?_
  exact q_getfield mt_X10_parse dX10_parse_265 rfl
theorem e_X10_parse_5 (sc : SC) (p0 : Nat) (v1 : AV) (v2 : AV) (v3 : AV) (v4 : AV) (h : AH) : Run sc n_X10_parse 5 [aD p0, v1, v2, v3, v4] none [] h = bF (getF sc h (aD p0) 12 7) (fun z => Run sc n_X10_parse 10 [aD p0, v1, v2, v3, v4] none [z, aD p0] h) := by
  refine (s_go mt_X10_parse dX10_parse_5 rfl).trans ?_
  refine (s_go mt_X10_parse dX10_parse_6 rfl).trans ?_
  exact q_getfield mt_X10_parse dX10_parse_7 rfl
theorem e_X10_parse_48 (sc : SC) (p0 : Nat) (v1 : AV) (v2 : AV) (v3 : AV) (v4 : AV) (y0 : Int32) (h : AH) : Run sc n_X10_parse 48 [aD p0, v1, v2, v3, v4] none [aI y0] h = Run sc n_X10_parse (if ¬ y0 = (-1) then 78 else 52) [aD p0, v1, v2, v3, v4] none [] h := by
  refine (s_go mt_X10_parse dX10_parse_48 rfl).trans ?_
  exact q_icmp mt_X10_parse dX10_parse_49 (fun _ _ _ _ => rfl) rfl
theorem e_X10_parse_56 (sc : SC) (p0 : Nat) (v1 : AV) (v2 : AV) (v3 : AV) (v4 : AV) (y0 : Int32) (h : AH) : Run sc n_X10_parse 56 [aD p0, v1, v2, v3, v4] none [aI y0] h = Run sc n_X10_parse (if ¬ y0 = (nI 59) then 78 else 61) [aD p0, v1, v2, v3, v4] none [] h := by
  refine (s_go mt_X10_parse dX10_parse_56 rfl).trans ?_
  exact q_icmp mt_X10_parse dX10_parse_58 (fun _ _ _ _ => rfl) rfl
theorem e_X10_parse_66 (sc : SC) (p0 : Nat) (v1 : AV) (v2 : AV) (v3 : AV) (v4 : AV) (q0 : Nat) (y1 : Int32) (h : AH) : Run sc n_X10_parse 66 [aD p0, v1, v2, v3, v4] none [aI y1, aD q0] h = bO (putF h q0 12 9 0 (aI (y1 + (nI 1)))) (fun z => Run sc n_X10_parse 71 [aD p0, v1, v2, v3, v4] none [] z) := by
  refine (s_go mt_X10_parse dX10_parse_66 rfl).trans ?_
  refine (s_go mt_X10_parse dX10_parse_67 rfl).trans ?_
  exact q_putfield mt_X10_parse dX10_parse_68 rfl rfl rfl rfl
theorem e_X10_parse_82 (sc : SC) (p0 : Nat) (v1 : AV) (v2 : AV) (v3 : AV) (v4 : AV) (y0 : Int32) (h : AH) : Run sc n_X10_parse 82 [aD p0, v1, v2, v3, v4] none [aI y0] h = bF (getF sc h (aD p0) 12 8) (fun z => Run sc n_X10_parse 86 [aD p0, v1, v2, v3, v4] none [z, aI y0] h) := by
  refine (s_go mt_X10_parse dX10_parse_82 rfl).trans ?_
  exact q_getfield mt_X10_parse dX10_parse_83 rfl
theorem e_X10_parse_97 (sc : SC) (p0 : Nat) (v1 : AV) (v2 : AV) (v3 : AV) (v4 : AV) (y0 : Int32) (h : AH) : Run sc n_X10_parse 97 [aD p0, v1, v2, v3, v4] none [aI y0] h = Run sc n_X10_parse (if y0 = (-1) then 109 else 101) [aD p0, v1, v2, v3, v4] none [] h := by
  refine (s_go mt_X10_parse dX10_parse_97 rfl).trans ?_
  exact q_icmp mt_X10_parse dX10_parse_98 (fun _ _ _ _ => rfl) rfl
theorem e_X10_parse_107 (sc : SC) (p0 : Nat) (v1 : AV) (v2 : AV) (v3 : AV) (v4 : AV) (y0 : Int32) (y1 : Int32) (h : AH) : Run sc n_X10_parse 107 [aD p0, v1, v2, v3, v4] none [aI y1, aI y0] h = some (.inl (some (aI (y0 - y1))), h) := by
  refine (s_go mt_X10_parse dX10_parse_107 rfl).trans ?_
  exact q_ret (c := (some (aI (y0 - y1)), h)) mt_X10_parse dX10_parse_108 rfl
theorem e_X10_parse_118 (sc : SC) (p0 : Nat) (x1 : Int32) (x2 : Int32) (v3 : AV) (v4 : AV) (y0 : Int32) (y1 : Int32) (h : AH) : Run sc n_X10_parse 118 [aD p0, aI x1, aI x2, v3, v4] none [aI y1, aI y0] h = Run sc n_X10_parse (if y1 ≤ y0 then 147 else 121) [aD p0, aI x1, aI x2, v3, v4] none [] h := by
  exact q_icmp mt_X10_parse dX10_parse_118 (fun _ _ _ _ => rfl) rfl
theorem e_X10_parse_132 (sc : SC) (p0 : Nat) (x1 : Int32) (x2 : Int32) (v3 : AV) (v4 : AV) (y0 : Int32) (h : AH) : Run sc n_X10_parse 132 [aD p0, aI x1, aI x2, v3, v4] none [aI y0] h = Run sc n_X10_parse (if y0 = 0 then 139 else 135) [aD p0, aI x1, aI x2, v3, v4] none [] h := by
  exact q_if mt_X10_parse dX10_parse_132 (fun _ _ _ _ => rfl) rfl
theorem e_X10_parse_156 (sc : SC) (p0 : Nat) (x1 : Int32) (x2 : Int32) (v3 : AV) (v4 : AV) (y0 : Int32) (h : AH) : Run sc n_X10_parse 156 [aD p0, aI x1, aI x2, v3, v4] none [aI y0] h = some (.inl (some (aI y0)), h) := by
  exact q_ret (c := (some (aI y0), h)) mt_X10_parse dX10_parse_156 rfl
theorem e_X10_parse_161 (sc : SC) (p0 : Nat) (x1 : Int32) (x2 : Int32) (v3 : AV) (v4 : AV) (y0 : Int32) (h : AH) : Run sc n_X10_parse 161 [aD p0, aI x1, aI x2, v3, v4] none [aI y0] h = bF (getF sc h (aD p0) 12 12) (fun z => Run sc n_X10_parse 165 [aD p0, aI x1, aI x2, v3, v4] none [z, aI y0] h) := by
  refine (s_go mt_X10_parse dX10_parse_161 rfl).trans ?_
  exact q_getfield mt_X10_parse dX10_parse_162 rfl
theorem e_X10_parse_176 (sc : SC) (p0 : Nat) (x1 : Int32) (x2 : Int32) (v3 : AV) (v4 : AV) (y0 : Int32) (h : AH) : Run sc n_X10_parse 176 [aD p0, aI x1, aI x2, v3, v4] none [aI y0] h = some (.inl (some (aI y0)), h) := by
  exact q_ret (c := (some (aI y0), h)) mt_X10_parse dX10_parse_176 rfl
theorem e_X10_parse_181 (sc : SC) (p0 : Nat) (x1 : Int32) (x2 : Int32) (v3 : AV) (v4 : AV) (y0 : Int32) (h : AH) : Run sc n_X10_parse 181 [aD p0, aI x1, aI x2, v3, v4] none [aI y0] h = Run sc n_X10_parse 184 [aD p0, aI x1, aI y0, aI (nI 0), v4] none [] h := by
  refine (s_go mt_X10_parse dX10_parse_181 rfl).trans ?_
  refine (s_go mt_X10_parse dX10_parse_182 rfl).trans ?_
  refine (s_go mt_X10_parse dX10_parse_183 rfl).trans ?_
  exact rfl
theorem e_X10_parse_189 (sc : SC) (p0 : Nat) (x1 : Int32) (x2 : Int32) (x3 : Int32) (v4 : AV) (y0 : Int32) (y1 : Int32) (h : AH) : Run sc n_X10_parse 189 [aD p0, aI x1, aI x2, aI x3, v4] none [aI y1, aI y0] h = Run sc n_X10_parse (if y1 ≤ y0 then 263 else 192) [aD p0, aI x1, aI x2, aI x3, v4] none [] h := by
  exact q_icmp mt_X10_parse dX10_parse_189 (fun _ _ _ _ => rfl) rfl
theorem e_X10_parse_205 (sc : SC) (p0 : Nat) (x1 : Int32) (x2 : Int32) (x3 : Int32) (x4 : Int32) (q0 : Nat) (h : AH) : Run sc n_X10_parse 205 [aD p0, aI x1, aI x2, aI x3, aI x4] none [aD q0] h = bF (getF sc h (aD p0) 12 11) (fun z => Run sc n_X10_parse 217 [aD p0, aI x1, aI x2, aI x3, aI x4] none [z, aI (((nI 4) * (x2 + x3)) + x4), aD q0] h) := by
  refine (s_go mt_X10_parse dX10_parse_205 rfl).trans ?_
  refine (s_go mt_X10_parse dX10_parse_206 rfl).trans ?_
  refine (s_go mt_X10_parse dX10_parse_207 rfl).trans ?_
  refine (s_go mt_X10_parse dX10_parse_208 rfl).trans ?_
  refine (s_go mt_X10_parse dX10_parse_209 rfl).trans ?_
  refine (s_go mt_X10_parse dX10_parse_210 rfl).trans ?_
  refine (s_go mt_X10_parse dX10_parse_212 rfl).trans ?_
  refine (s_go mt_X10_parse dX10_parse_213 rfl).trans ?_
  exact q_getfield mt_X10_parse dX10_parse_214 rfl
theorem e_X10_parse_234 (sc : SC) (p0 : Nat) (x1 : Int32) (x2 : Int32) (x3 : Int32) (x4 : Int32) (q0 : Nat) (y1 : Int32) (y2 : Int32) (q3 : Nat) (h : AH) : Run sc n_X10_parse 234 [aD p0, aI x1, aI x2, aI x3, aI x4] none [aD q3, aI y2, aI y1, aD q0] h = bO (ldI sc h (fun t => t == 0) (aD q3) ((nI 4) * x3)) (fun z => Run sc n_X10_parse 238 [aD p0, aI x1, aI x2, aI x3, aI x4] none [aI z, aI y2, aI y1, aD q0] h) := by
  refine (s_go mt_X10_parse dX10_parse_234 rfl).trans ?_
  refine (s_go mt_X10_parse dX10_parse_235 rfl).trans ?_
  refine (s_go mt_X10_parse dX10_parse_236 rfl).trans ?_
  exact q_iaload mt_X10_parse dX10_parse_237
theorem e_X10_parse_251 (sc : SC) (p0 : Nat) (x1 : Int32) (x2 : Int32) (x3 : Int32) (x4 : Int32) (h : AH) : Run sc n_X10_parse 251 [aD p0, aI x1, aI x2, aI x3, aI x4] none [] h = Run sc n_X10_parse 195 [aD p0, aI x1, aI x2, aI x3, aI (x4 + nI 1)] none [] h := by
  refine (s_go mt_X10_parse dX10_parse_251 rfl).trans ?_
  refine (s_go mt_X10_parse dX10_parse_254 rfl).trans ?_
  exact rfl
theorem e_X10_parse_268 (sc : SC) (p0 : Nat) (x1 : Int32) (x2 : Int32) (x3 : Int32) (v4 : AV) (q0 : Nat) (y1 : Int32) (h : AH) : Run sc n_X10_parse 268 [aD p0, aI x1, aI x2, aI x3, v4] none [aI y1, aD q0] h = bF (getF sc h (aD p0) 12 12) (fun z => Run sc n_X10_parse 272 [aD p0, aI x1, aI x2, aI x3, v4] none [z, aI y1, aD q0] h) := by
  refine (s_go mt_X10_parse dX10_parse_268 rfl).trans ?_
  exact q_getfield mt_X10_parse dX10_parse_269 rfl
theorem e_X10_parse_10 (sc : SC) (p0 : Nat) (v1 : AV) (v2 : AV) (v3 : AV) (v4 : AV) (q0 : Nat) (y1 : Int32) (h : AH) : Run sc n_X10_parse 10 [aD p0, v1, v2, v3, v4] none [aI y1, aD q0] h = bO (putF h q0 12 8 0 (aI y1)) (fun z => Run sc n_X10_parse 13 [aD p0, v1, v2, v3, v4] none [] z) := by
  exact q_putfield mt_X10_parse dX10_parse_10 rfl rfl rfl rfl
theorem e_X10_parse_71 (sc : SC) (p0 : Nat) (v1 : AV) (v2 : AV) (v3 : AV) (v4 : AV) (h : AH) : Run sc n_X10_parse 71 [aD p0, v1, v2, v3, v4] none [] h = bI (rOK sc h (aD p0) 12 = true) (bC (Call sc n_X10_readInstruction [aD p0] h) (fun v z => Run sc n_X10_parse 75 [aD p0, v1, v2, v3, v4] none (v.toList ++ []) z) (fun E z => some (.inr E, z))) := by
  refine (s_go mt_X10_parse dX10_parse_71 rfl).trans ?_
  exact q_cV mt_X10_parse dX10_parse_72 rfl mt_X10_readInstruction rfl rfl rfl
theorem e_X10_parse_86 (sc : SC) (p0 : Nat) (v1 : AV) (v2 : AV) (v3 : AV) (v4 : AV) (y0 : Int32) (y1 : Int32) (h : AH) : Run sc n_X10_parse 86 [aD p0, v1, v2, v3, v4] none [aI y1, aI y0] h = Run sc n_X10_parse (if y1 ≤ y0 then 93 else 89) [aD p0, v1, v2, v3, v4] none [] h := by
  exact q_icmp mt_X10_parse dX10_parse_86 (fun _ _ _ _ => rfl) rfl
theorem e_X10_parse_165 (sc : SC) (p0 : Nat) (x1 : Int32) (x2 : Int32) (v3 : AV) (v4 : AV) (y0 : Int32) (y1 : Int32) (h : AH) : Run sc n_X10_parse 165 [aD p0, aI x1, aI x2, v3, v4] none [aI y1, aI y0] h = Run sc n_X10_parse (if (y0 + y1) ≤ (nI 30) then 177 else 171) [aD p0, aI x1, aI x2, v3, v4] none [] h := by
  refine (s_go mt_X10_parse dX10_parse_165 rfl).trans ?_
  refine (s_go mt_X10_parse dX10_parse_166 rfl).trans ?_
  exact q_icmp mt_X10_parse dX10_parse_168 (fun _ _ _ _ => rfl) rfl
theorem e_X10_parse_217 (sc : SC) (p0 : Nat) (x1 : Int32) (x2 : Int32) (x3 : Int32) (x4 : Int32) (q0 : Nat) (y1 : Int32) (q2 : Nat) (h : AH) : Run sc n_X10_parse 217 [aD p0, aI x1, aI x2, aI x3, aI x4] none [aD q2, aI y1, aD q0] h = bO (ldI sc h (fun t => t == 0) (aD q2) (((nI 4) * x3) + x4)) (fun z => Run sc n_X10_parse 224 [aD p0, aI x1, aI x2, aI x3, aI x4] none [aI z, aI y1, aD q0] h) := by
  refine (s_go mt_X10_parse dX10_parse_217 rfl).trans ?_
  refine (s_go mt_X10_parse dX10_parse_218 rfl).trans ?_
  refine (s_go mt_X10_parse dX10_parse_219 rfl).trans ?_
  refine (s_go mt_X10_parse dX10_parse_220 rfl).trans ?_
  refine (s_go mt_X10_parse dX10_parse_222 rfl).trans ?_
  exact q_iaload mt_X10_parse dX10_parse_223
theorem e_X10_parse_238 (sc : SC) (p0 : Nat) (x1 : Int32) (x2 : Int32) (x3 : Int32) (x4 : Int32) (q0 : Nat) (y1 : Int32) (y2 : Int32) (y3 : Int32) (h : AH) : Run sc n_X10_parse 238 [aD p0, aI x1, aI x2, aI x3, aI x4] none [aI y3, aI y2, aI y1, aD q0] h = bC (Call sc n_X10_isBranch [aI y3] h) (fun v z => Run sc n_X10_parse 241 [aD p0, aI x1, aI x2, aI x3, aI x4] none (v.toList ++ [aI y2, aI y1, aD q0]) z) (fun E z => some (.inr E, z)) := by
  exact q_cS mt_X10_parse dX10_parse_238 rfl mt_X10_isBranch rfl rfl
theorem e_X10_parse_272 (sc : SC) (p0 : Nat) (x1 : Int32) (x2 : Int32) (x3 : Int32) (v4 : AV) (q0 : Nat) (y1 : Int32) (y2 : Int32) (h : AH) : Run sc n_X10_parse 272 [aD p0, aI x1, aI x2, aI x3, v4] none [aI y2, aI y1, aD q0] h = bO (putF h q0 12 2 0 (aI (y1 + y2))) (fun z => Run sc n_X10_parse 276 [aD p0, aI x1, aI x2, aI x3, v4] none [] z) := by
  refine (s_go mt_X10_parse dX10_parse_272 rfl).trans ?_
  exact q_putfield mt_X10_parse dX10_parse_273 rfl rfl rfl rfl
theorem e_X10_parse_13 (sc : SC) (p0 : Nat) (v1 : AV) (v2 : AV) (v3 : AV) (v4 : AV) (h : AH) : Run sc n_X10_parse 13 [aD p0, v1, v2, v3, v4] none [] h = bO (putF h p0 12 7 0 (aI (nI 0))) (fun z => Run sc n_X10_parse 18 [aD p0, v1, v2, v3, v4] none [] z) := by
  refine (s_go mt_X10_parse dX10_parse_13 rfl).trans ?_
  refine (s_go mt_X10_parse dX10_parse_14 rfl).trans ?_
  exact q_putfield mt_X10_parse dX10_parse_15 rfl rfl rfl rfl
theorem e_X10_parse_75 (sc : SC) (p0 : Nat) (v1 : AV) (v2 : AV) (v3 : AV) (v4 : AV) (h : AH) : Run sc n_X10_parse 75 [aD p0, v1, v2, v3, v4] none [] h = Run sc n_X10_parse 44 [aD p0, v1, v2, v3, v4] none [] h := by
  refine (s_go mt_X10_parse dX10_parse_75 rfl).trans ?_
  exact rfl
theorem e_X10_parse_224 (sc : SC) (p0 : Nat) (x1 : Int32) (x2 : Int32) (x3 : Int32) (x4 : Int32) (q0 : Nat) (y1 : Int32) (y2 : Int32) (h : AH) : Run sc n_X10_parse 224 [aD p0, aI x1, aI x2, aI x3, aI x4] none [aI y2, aI y1, aD q0] h = Run sc n_X10_parse (if ¬ x4 = (nI 3) then 248 else 230) [aD p0, aI x1, aI x2, aI x3, aI x4] none [aI y2, aI y1, aD q0] h := by
  refine (s_go mt_X10_parse dX10_parse_224 rfl).trans ?_
  refine (s_go mt_X10_parse dX10_parse_226 rfl).trans ?_
  exact q_icmp mt_X10_parse dX10_parse_227 (fun _ _ _ _ => rfl) rfl
theorem e_X10_parse_241 (sc : SC) (p0 : Nat) (x1 : Int32) (x2 : Int32) (x3 : Int32) (x4 : Int32) (q0 : Nat) (y1 : Int32) (y2 : Int32) (y3 : Int32) (h : AH) : Run sc n_X10_parse 241 [aD p0, aI x1, aI x2, aI x3, aI x4] none [aI y3, aI y2, aI y1, aD q0] h = Run sc n_X10_parse (if y3 = 0 then 248 else 244) [aD p0, aI x1, aI x2, aI x3, aI x4] none [aI y2, aI y1, aD q0] h := by
  exact q_if mt_X10_parse dX10_parse_241 (fun _ _ _ _ => rfl) rfl
theorem e_X10_parse_276 (sc : SC) (p0 : Nat) (x1 : Int32) (x2 : Int32) (x3 : Int32) (v4 : AV) (h : AH) : Run sc n_X10_parse 276 [aD p0, aI x1, aI x2, aI x3, v4] none [] h = bF (getF sc h (aD p0) 12 12) (fun z => Run sc n_X10_parse 280 [aD p0, aI x1, aI x2, aI x3, v4] none [z] h) := by
  refine (s_go mt_X10_parse dX10_parse_276 rfl).trans ?_
  exact q_getfield mt_X10_parse dX10_parse_277 rfl
theorem e_X10_parse_18 (sc : SC) (p0 : Nat) (v1 : AV) (v2 : AV) (v3 : AV) (v4 : AV) (h : AH) : Run sc n_X10_parse 18 [aD p0, v1, v2, v3, v4] none [] h = bO (putF h p0 12 9 0 (aI (nI 0))) (fun z => Run sc n_X10_parse 23 [aD p0, v1, v2, v3, v4] none [] z) := by
  refine (s_go mt_X10_parse dX10_parse_18 rfl).trans ?_
  refine (s_go mt_X10_parse dX10_parse_19 rfl).trans ?_
  exact q_putfield mt_X10_parse dX10_parse_20 rfl rfl rfl rfl
theorem e_X10_parse_280 (sc : SC) (p0 : Nat) (x1 : Int32) (x2 : Int32) (x3 : Int32) (v4 : AV) (y0 : Int32) (h : AH) : Run sc n_X10_parse 280 [aD p0, aI x1, aI x2, aI x3, v4] none [aI y0] h = some (.inl (some (aI y0)), h) := by
  exact q_ret (c := (some (aI y0), h)) mt_X10_parse dX10_parse_280 rfl
theorem e_X10_parse_23 (sc : SC) (p0 : Nat) (v1 : AV) (v2 : AV) (v3 : AV) (v4 : AV) (h : AH) : Run sc n_X10_parse 23 [aD p0, v1, v2, v3, v4] none [] h = bO (putF h p0 12 10 0 (aI (-1))) (fun z => Run sc n_X10_parse 28 [aD p0, v1, v2, v3, v4] none [] z) := by
  refine (s_go mt_X10_parse dX10_parse_23 rfl).trans ?_
  refine (s_go mt_X10_parse dX10_parse_24 rfl).trans ?_
  exact q_putfield mt_X10_parse dX10_parse_25 rfl rfl rfl rfl
theorem e_X10_parse_28 (sc : SC) (p0 : Nat) (v1 : AV) (v2 : AV) (v3 : AV) (v4 : AV) (h : AH) : Run sc n_X10_parse 28 [aD p0, v1, v2, v3, v4] none [] h = bO (putF h p0 12 12 0 (aI (nI 0))) (fun z => Run sc n_X10_parse 33 [aD p0, v1, v2, v3, v4] none [] z) := by
  refine (s_go mt_X10_parse dX10_parse_28 rfl).trans ?_
  refine (s_go mt_X10_parse dX10_parse_29 rfl).trans ?_
  exact q_putfield mt_X10_parse dX10_parse_30 rfl rfl rfl rfl
theorem e_X10_parse_33 (sc : SC) (p0 : Nat) (v1 : AV) (v2 : AV) (v3 : AV) (v4 : AV) (h : AH) : Run sc n_X10_parse 33 [aD p0, v1, v2, v3, v4] none [] h = bF (getF sc h (aD p0) 12 8) (fun z => Run sc n_X10_parse 37 [aD p0, v1, v2, v3, v4] none [z] h) := by
  refine (s_go mt_X10_parse dX10_parse_33 rfl).trans ?_
  exact q_getfield mt_X10_parse dX10_parse_34 rfl
theorem e_X10_parse_37 (sc : SC) (p0 : Nat) (v1 : AV) (v2 : AV) (v3 : AV) (v4 : AV) (y0 : Int32) (h : AH) : Run sc n_X10_parse 37 [aD p0, v1, v2, v3, v4] none [aI y0] h = Run sc n_X10_parse (if y0 ≤ 0 then 93 else 40) [aD p0, v1, v2, v3, v4] none [] h := by
  exact q_if mt_X10_parse dX10_parse_37 (fun _ _ _ _ => rfl) rfl
/-! BranchSlotFillerModel.clear()I -/
theorem e_X10_clear_0 (sc : SC) (p0 : Nat) (v1 : AV) (h : AH) : Run sc n_X10_clear 0 [aD p0, v1] none [] h = bO (putF h p0 12 0 0 (aI (nI 0))) (fun z => Run sc n_X10_clear 5 [aD p0, v1] none [] z) := by
  refine (s_go mt_X10_clear dX10_clear_0 rfl).trans ?_
  refine (s_go mt_X10_clear dX10_clear_1 rfl).trans ?_
  exact q_putfield mt_X10_clear dX10_clear_2 rfl rfl rfl rfl
theorem e_X10_clear_5 (sc : SC) (p0 : Nat) (v1 : AV) (h : AH) : Run sc n_X10_clear 5 [aD p0, v1] none [] h = bF (getF sc h (aD p0) 12 2) (fun z => Run sc n_X10_clear 9 [aD p0, v1] none [z] h) := by
  refine (s_go mt_X10_clear dX10_clear_5 rfl).trans ?_
  exact q_getfield mt_X10_clear dX10_clear_6 rfl
theorem e_X10_clear_9 (sc : SC) (p0 : Nat) (v1 : AV) (y0 : Int32) (h : AH) : Run sc n_X10_clear 9 [aD p0, v1] none [aI y0] h = bO (putF h p0 12 2 0 (aI (nI 0))) (fun z => Run sc n_X10_clear 15 [aD p0, aI y0] none [] z) := by
  refine (s_go mt_X10_clear dX10_clear_9 rfl).trans ?_
  refine (s_go mt_X10_clear dX10_clear_10 rfl).trans ?_
  refine (s_go mt_X10_clear dX10_clear_11 rfl).trans ?_
  exact q_putfield mt_X10_clear dX10_clear_12 rfl rfl rfl rfl
theorem e_X10_clear_15 (sc : SC) (p0 : Nat) (x1 : Int32) (h : AH) : Run sc n_X10_clear 15 [aD p0, aI x1] none [] h = some (.inl (some (aI x1)), h) := by
  refine (s_go mt_X10_clear dX10_clear_15 rfl).trans ?_
  exact q_ret (c := (some (aI x1), h)) mt_X10_clear dX10_clear_16 rfl
/-! BranchSlotFillerModel.instructions()I -/
theorem e_X10_instructions_0 (sc : SC) (p0 : Nat) (h : AH) : Run sc n_X10_instructions 0 [aD p0] none [] h = bO (putF h p0 12 0 0 (aI (nI 0))) (fun z => Run sc n_X10_instructions 5 [aD p0] none [] z) := by
  refine (s_go mt_X10_instructions dX10_instructions_0 rfl).trans ?_
  refine (s_go mt_X10_instructions dX10_instructions_1 rfl).trans ?_
  exact q_putfield mt_X10_instructions dX10_instructions_2 rfl rfl rfl rfl
theorem e_X10_instructions_5 (sc : SC) (p0 : Nat) (h : AH) : Run sc n_X10_instructions 5 [aD p0] none [] h = bF (getF sc h (aD p0) 12 2) (fun z => Run sc n_X10_instructions 9 [aD p0] none [z] h) := by
  refine (s_go mt_X10_instructions dX10_instructions_5 rfl).trans ?_
  exact q_getfield mt_X10_instructions dX10_instructions_6 rfl
theorem e_X10_instructions_9 (sc : SC) (p0 : Nat) (y0 : Int32) (h : AH) : Run sc n_X10_instructions 9 [aD p0] none [aI y0] h = some (.inl (some (aI y0)), h) := by
  exact q_ret (c := (some (aI y0), h)) mt_X10_instructions dX10_instructions_9 rfl
/-! BranchSlotFillerModel.instruction(II)I -/
theorem e_X10_instruction_0 (sc : SC) (p0 : Nat) (x1 : Int32) (x2 : Int32) (h : AH) : Run sc n_X10_instruction 0 [aD p0, aI x1, aI x2] none [] h = bF (getF sc h (aD p0) 12 2) (fun z => Run sc n_X10_instruction 7 [aD p0, aI x1, aI x2] none [z, aI (nI 0), aI x1, aD p0] h) := by
  refine (s_go mt_X10_instruction dX10_instruction_0 rfl).trans ?_
  refine (s_go mt_X10_instruction dX10_instruction_1 rfl).trans ?_
  refine (s_go mt_X10_instruction dX10_instruction_2 rfl).trans ?_
  refine (s_go mt_X10_instruction dX10_instruction_3 rfl).trans ?_
  exact q_getfield mt_X10_instruction dX10_instruction_4 rfl
theorem e_X10_instruction_15 (sc : SC) (p0 : Nat) (x1 : Int32) (x2 : Int32) (q0 : Nat) (h : AH) : Run sc n_X10_instruction 15 [aD p0, aI x1, aI x2] none [aD q0] h = Run sc n_X10_instruction 33 [aD p0, aI x1, aI x2] none [aI (nI 1), aD q0] h := by
  refine (s_go mt_X10_instruction dX10_instruction_15 rfl).trans ?_
  refine (s_go mt_X10_instruction dX10_instruction_16 rfl).trans ?_
  exact rfl
theorem e_X10_instruction_19 (sc : SC) (p0 : Nat) (x1 : Int32) (x2 : Int32) (q0 : Nat) (h : AH) : Run sc n_X10_instruction 19 [aD p0, aI x1, aI x2] none [aD q0] h = bC (Call sc n_X10_isIn [aI x2, aI (nI 0), aI (nI 3)] h) (fun v z => Run sc n_X10_instruction 25 [aD p0, aI x1, aI x2] none (v.toList ++ [aD q0]) z) (fun E z => some (.inr E, z)) := by
  refine (s_go mt_X10_instruction dX10_instruction_19 rfl).trans ?_
  refine (s_go mt_X10_instruction dX10_instruction_20 rfl).trans ?_
  refine (s_go mt_X10_instruction dX10_instruction_21 rfl).trans ?_
  exact q_cS mt_X10_instruction dX10_instruction_22 rfl mt_X10_isIn rfl rfl
theorem e_X10_instruction_28 (sc : SC) (p0 : Nat) (x1 : Int32) (x2 : Int32) (q0 : Nat) (h : AH) : Run sc n_X10_instruction 28 [aD p0, aI x1, aI x2] none [aD q0] h = Run sc n_X10_instruction 33 [aD p0, aI x1, aI x2] none [aI (nI 2), aD q0] h := by
  refine (s_go mt_X10_instruction dX10_instruction_28 rfl).trans ?_
  refine (s_go mt_X10_instruction dX10_instruction_29 rfl).trans ?_
  exact rfl
theorem e_X10_instruction_32 (sc : SC) (p0 : Nat) (x1 : Int32) (x2 : Int32) (q0 : Nat) (h : AH) : Run sc n_X10_instruction 32 [aD p0, aI x1, aI x2] none [aD q0] h = Run sc n_X10_instruction 33 [aD p0, aI x1, aI x2] none [aI (nI 0), aD q0] h := by
  refine (s_go mt_X10_instruction dX10_instruction_32 rfl).trans ?_
  exact rfl
theorem e_X10_instruction_33 (sc : SC) (p0 : Nat) (x1 : Int32) (x2 : Int32) (q0 : Nat) (y1 : Int32) (h : AH) : Run sc n_X10_instruction 33 [aD p0, aI x1, aI x2] none [aI y1, aD q0] h = bO (putF h q0 12 0 0 (aI y1)) (fun z => Run sc n_X10_instruction 36 [aD p0, aI x1, aI x2] none [] z) := by
  exact q_putfield mt_X10_instruction dX10_instruction_33 rfl rfl rfl rfl
theorem e_X10_instruction_43 (sc : SC) (p0 : Nat) (x1 : Int32) (x2 : Int32) (h : AH) : Run sc n_X10_instruction 43 [aD p0, aI x1, aI x2] none [] h = bF (getF sc h (aD p0) 12 1) (fun z => Run sc n_X10_instruction 47 [aD p0, aI x1, aI x2] none [z] h) := by
  refine (s_go mt_X10_instruction dX10_instruction_43 rfl).trans ?_
  exact q_getfield mt_X10_instruction dX10_instruction_44 rfl
theorem e_X10_instruction_56 (sc : SC) (p0 : Nat) (x1 : Int32) (x2 : Int32) (h : AH) : Run sc n_X10_instruction 56 [aD p0, aI x1, aI x2] none [] h = Run sc n_X10_instruction 57 [aD p0, aI x1, aI x2] none [aI (nI 0)] h := by
  refine (s_go mt_X10_instruction dX10_instruction_56 rfl).trans ?_
  exact rfl
theorem e_X10_instruction_57 (sc : SC) (p0 : Nat) (x1 : Int32) (x2 : Int32) (y0 : Int32) (h : AH) : Run sc n_X10_instruction 57 [aD p0, aI x1, aI x2] none [aI y0] h = some (.inl (some (aI y0)), h) := by
  exact q_ret (c := (some (aI y0), h)) mt_X10_instruction dX10_instruction_57 rfl
theorem e_X10_instruction_7 (sc : SC) (p0 : Nat) (x1 : Int32) (x2 : Int32) (q0 : Nat) (y1 : Int32) (y2 : Int32) (y3 : Int32) (h : AH) : Run sc n_X10_instruction 7 [aD p0, aI x1, aI x2] none [aI y3, aI y2, aI y1, aD q0] h = bC (Call sc n_X10_isIn [aI y1, aI y2, aI (y3 - (nI 1))] h) (fun v z => Run sc n_X10_instruction 12 [aD p0, aI x1, aI x2] none (v.toList ++ [aD q0]) z) (fun E z => some (.inr E, z)) := by
  refine (s_go mt_X10_instruction dX10_instruction_7 rfl).trans ?_
  refine (s_go mt_X10_instruction dX10_instruction_8 rfl).trans ?_
  exact q_cS mt_X10_instruction dX10_instruction_9 rfl mt_X10_isIn rfl rfl
theorem e_X10_instruction_25 (sc : SC) (p0 : Nat) (x1 : Int32) (x2 : Int32) (q0 : Nat) (y1 : Int32) (h : AH) : Run sc n_X10_instruction 25 [aD p0, aI x1, aI x2] none [aI y1, aD q0] h = Run sc n_X10_instruction (if ¬ y1 = 0 then 32 else 28) [aD p0, aI x1, aI x2] none [aD q0] h := by
  exact q_if mt_X10_instruction dX10_instruction_25 (fun _ _ _ _ => rfl) rfl
theorem e_X10_instruction_36 (sc : SC) (p0 : Nat) (x1 : Int32) (x2 : Int32) (h : AH) : Run sc n_X10_instruction 36 [aD p0, aI x1, aI x2] none [] h = bF (getF sc h (aD p0) 12 0) (fun z => Run sc n_X10_instruction 40 [aD p0, aI x1, aI x2] none [z] h) := by
  refine (s_go mt_X10_instruction dX10_instruction_36 rfl).trans ?_
  exact q_getfield mt_X10_instruction dX10_instruction_37 rfl
theorem e_X10_instruction_47 (sc : SC) (p0 : Nat) (x1 : Int32) (x2 : Int32) (q0 : Nat) (h : AH) : Run sc n_X10_instruction 47 [aD p0, aI x1, aI x2] none [aD q0] h = bO (ldI sc h (fun t => t == 0) (aD q0) (((nI 4) * x1) + x2)) (fun z => Run sc n_X10_instruction 53 [aD p0, aI x1, aI x2] none [aI z] h) := by
  refine (s_go mt_X10_instruction dX10_instruction_47 rfl).trans ?_
  refine (s_go mt_X10_instruction dX10_instruction_48 rfl).trans ?_
  refine (s_go mt_X10_instruction dX10_instruction_49 rfl).trans ?_
  refine (s_go mt_X10_instruction dX10_instruction_50 rfl).trans ?_
  refine (s_go mt_X10_instruction dX10_instruction_51 rfl).trans ?_
  exact q_iaload mt_X10_instruction dX10_instruction_52
theorem e_X10_instruction_12 (sc : SC) (p0 : Nat) (x1 : Int32) (x2 : Int32) (q0 : Nat) (y1 : Int32) (h : AH) : Run sc n_X10_instruction 12 [aD p0, aI x1, aI x2] none [aI y1, aD q0] h = Run sc n_X10_instruction (if ¬ y1 = 0 then 19 else 15) [aD p0, aI x1, aI x2] none [aD q0] h := by
  exact q_if mt_X10_instruction dX10_instruction_12 (fun _ _ _ _ => rfl) rfl
theorem e_X10_instruction_40 (sc : SC) (p0 : Nat) (x1 : Int32) (x2 : Int32) (y0 : Int32) (h : AH) : Run sc n_X10_instruction 40 [aD p0, aI x1, aI x2] none [aI y0] h = Run sc n_X10_instruction (if ¬ y0 = 0 then 56 else 43) [aD p0, aI x1, aI x2] none [] h := by
  exact q_if mt_X10_instruction dX10_instruction_40 (fun _ _ _ _ => rfl) rfl
theorem e_X10_instruction_53 (sc : SC) (p0 : Nat) (x1 : Int32) (x2 : Int32) (y0 : Int32) (h : AH) : Run sc n_X10_instruction 53 [aD p0, aI x1, aI x2] none [aI y0] h = Run sc n_X10_instruction 57 [aD p0, aI x1, aI x2] none [aI y0] h := by
  refine (s_go mt_X10_instruction dX10_instruction_53 rfl).trans ?_
  exact rfl
/-! BranchSlotFillerModel.remember()V -/
theorem e_X10_remember_0 (sc : SC) (p0 : Nat) (v1 : AV) (h : AH) : Run sc n_X10_remember 0 [aD p0, v1] none [] h = bF (getF sc h (aD p0) 12 5) (fun z => Run sc n_X10_remember 4 [aD p0, v1] none [z] h) := by
  refine (s_go mt_X10_remember dX10_remember_0 rfl).trans ?_
  exact q_getfield mt_X10_remember dX10_remember_1 rfl
theorem e_X10_remember_9 (sc : SC) (p0 : Nat) (v1 : AV) (h : AH) : Run sc n_X10_remember 9 [aD p0, v1] none [] h = Run sc n_X10_remember 11 [aD p0, aI (nI 0)] none [] h := by
  refine (s_go mt_X10_remember dX10_remember_9 rfl).trans ?_
  refine (s_go mt_X10_remember dX10_remember_10 rfl).trans ?_
  exact rfl
theorem e_X10_remember_11 (sc : SC) (p0 : Nat) (x1 : Int32) (h : AH) : Run sc n_X10_remember 11 [aD p0, aI x1] none [] h = Run sc n_X10_remember (if (nI 2107) ≤ x1 then 40 else 18) [aD p0, aI x1] none [] h := by
  refine (s_go mt_X10_remember dX10_remember_11 rfl).trans ?_
  refine (s_go mt_X10_remember dX10_remember_12 rfl).trans ?_
  exact q_icmp mt_X10_remember dX10_remember_15 (fun _ _ _ _ => rfl) rfl
theorem e_X10_remember_18 (sc : SC) (p0 : Nat) (x1 : Int32) (h : AH) : Run sc n_X10_remember 18 [aD p0, aI x1] none [] h = bF (getF sc h (aD p0) 12 4) (fun z => Run sc n_X10_remember 22 [aD p0, aI x1] none [z] h) := by
  refine (s_go mt_X10_remember dX10_remember_18 rfl).trans ?_
  exact q_getfield mt_X10_remember dX10_remember_19 rfl
theorem e_X10_remember_40 (sc : SC) (p0 : Nat) (x1 : Int32) (h : AH) : Run sc n_X10_remember 40 [aD p0, aI x1] none [] h = bF (getF sc h (aD p0) 12 5) (fun z => Run sc n_X10_remember 45 [aD p0, aI x1] none [z, aD p0] h) := by
  refine (s_go mt_X10_remember dX10_remember_40 rfl).trans ?_
  refine (s_go mt_X10_remember dX10_remember_41 rfl).trans ?_
  exact q_getfield mt_X10_remember dX10_remember_42 rfl
theorem e_X10_remember_50 (sc : SC) (p0 : Nat) (v1 : AV) (h : AH) : Run sc n_X10_remember 50 [aD p0, v1] none [] h = Run sc n_X10_remember 52 [aD p0, aI (nI 0)] none [] h := by
  refine (s_go mt_X10_remember dX10_remember_50 rfl).trans ?_
  refine (s_go mt_X10_remember dX10_remember_51 rfl).trans ?_
  exact rfl
theorem e_X10_remember_52 (sc : SC) (p0 : Nat) (x1 : Int32) (h : AH) : Run sc n_X10_remember 52 [aD p0, aI x1] none [] h = Run sc n_X10_remember (if (nI 301) ≤ x1 then 86 else 59) [aD p0, aI x1] none [] h := by
  refine (s_go mt_X10_remember dX10_remember_52 rfl).trans ?_
  refine (s_go mt_X10_remember dX10_remember_53 rfl).trans ?_
  exact q_icmp mt_X10_remember dX10_remember_56 (fun _ _ _ _ => rfl) rfl
theorem e_X10_remember_59 (sc : SC) (p0 : Nat) (x1 : Int32) (h : AH) : Run sc n_X10_remember 59 [aD p0, aI x1] none [] h = bF (getF sc h (aD p0) 12 4) (fun z => Run sc n_X10_remember 63 [aD p0, aI x1] none [z] h) := by
  refine (s_go mt_X10_remember dX10_remember_59 rfl).trans ?_
  exact q_getfield mt_X10_remember dX10_remember_60 rfl
theorem e_X10_remember_86 (sc : SC) (p0 : Nat) (x1 : Int32) (h : AH) : Run sc n_X10_remember 86 [aD p0, aI x1] none [] h = bF (getF sc h (aD p0) 12 5) (fun z => Run sc n_X10_remember 91 [aD p0, aI x1] none [z, aD p0] h) := by
  refine (s_go mt_X10_remember dX10_remember_86 rfl).trans ?_
  refine (s_go mt_X10_remember dX10_remember_87 rfl).trans ?_
  exact q_getfield mt_X10_remember dX10_remember_88 rfl
theorem e_X10_remember_4 (sc : SC) (p0 : Nat) (v1 : AV) (y0 : Int32) (h : AH) : Run sc n_X10_remember 4 [aD p0, v1] none [aI y0] h = Run sc n_X10_remember (if ¬ y0 = (nI 8) then 50 else 9) [aD p0, v1] none [] h := by
  refine (s_go mt_X10_remember dX10_remember_4 rfl).trans ?_
  exact q_icmp mt_X10_remember dX10_remember_6 (fun _ _ _ _ => rfl) rfl
theorem e_X10_remember_22 (sc : SC) (p0 : Nat) (x1 : Int32) (q0 : Nat) (h : AH) : Run sc n_X10_remember 22 [aD p0, aI x1] none [aD q0] h = bF (getF sc h (aD p0) 12 4) (fun z => Run sc n_X10_remember 27 [aD p0, aI x1] none [z, aI x1, aD q0] h) := by
  refine (s_go mt_X10_remember dX10_remember_22 rfl).trans ?_
  refine (s_go mt_X10_remember dX10_remember_23 rfl).trans ?_
  exact q_getfield mt_X10_remember dX10_remember_24 rfl
theorem e_X10_remember_45 (sc : SC) (p0 : Nat) (x1 : Int32) (q0 : Nat) (y1 : Int32) (h : AH) : Run sc n_X10_remember 45 [aD p0, aI x1] none [aI y1, aD q0] h = bO (putF h q0 12 5 0 (aI (y1 - (nI 1)))) (fun z => Run sc n_X10_remember 50 [aD p0, aI x1] none [] z) := by
  refine (s_go mt_X10_remember dX10_remember_45 rfl).trans ?_
  refine (s_go mt_X10_remember dX10_remember_46 rfl).trans ?_
  exact q_putfield mt_X10_remember dX10_remember_47 rfl rfl rfl rfl
theorem e_X10_remember_63 (sc : SC) (p0 : Nat) (x1 : Int32) (q0 : Nat) (h : AH) : Run sc n_X10_remember 63 [aD p0, aI x1] none [aD q0] h = bF (getF sc h (aD p0) 12 5) (fun z => Run sc n_X10_remember 70 [aD p0, aI x1] none [z, aI (nI 301), aD q0] h) := by
  refine (s_go mt_X10_remember dX10_remember_63 rfl).trans ?_
  refine (s_go mt_X10_remember dX10_remember_66 rfl).trans ?_
  exact q_getfield mt_X10_remember dX10_remember_67 rfl
theorem e_X10_remember_91 (sc : SC) (p0 : Nat) (x1 : Int32) (q0 : Nat) (y1 : Int32) (h : AH) : Run sc n_X10_remember 91 [aD p0, aI x1] none [aI y1, aD q0] h = bO (putF h q0 12 5 0 (aI (y1 + (nI 1)))) (fun z => Run sc n_X10_remember 96 [aD p0, aI x1] none [] z) := by
  refine (s_go mt_X10_remember dX10_remember_91 rfl).trans ?_
  refine (s_go mt_X10_remember dX10_remember_92 rfl).trans ?_
  exact q_putfield mt_X10_remember dX10_remember_93 rfl rfl rfl rfl
theorem e_X10_remember_27 (sc : SC) (p0 : Nat) (x1 : Int32) (q0 : Nat) (y1 : Int32) (q2 : Nat) (h : AH) : Run sc n_X10_remember 27 [aD p0, aI x1] none [aD q2, aI y1, aD q0] h = bO (ldI sc h (fun t => t == 0) (aD q2) ((nI 301) + x1)) (fun z => Run sc n_X10_remember 33 [aD p0, aI x1] none [aI z, aI y1, aD q0] h) := by
  refine (s_go mt_X10_remember dX10_remember_27 rfl).trans ?_
  refine (s_go mt_X10_remember dX10_remember_30 rfl).trans ?_
  refine (s_go mt_X10_remember dX10_remember_31 rfl).trans ?_
  exact q_iaload mt_X10_remember dX10_remember_32
theorem e_X10_remember_70 (sc : SC) (p0 : Nat) (x1 : Int32) (q0 : Nat) (y1 : Int32) (y2 : Int32) (h : AH) : Run sc n_X10_remember 70 [aD p0, aI x1] none [aI y2, aI y1, aD q0] h = bF (getF sc h (aD p0) 12 3) (fun z => Run sc n_X10_remember 77 [aD p0, aI x1] none [z, aI ((y1 * y2) + x1), aD q0] h) := by
  refine (s_go mt_X10_remember dX10_remember_70 rfl).trans ?_
  refine (s_go mt_X10_remember dX10_remember_71 rfl).trans ?_
  refine (s_go mt_X10_remember dX10_remember_72 rfl).trans ?_
  refine (s_go mt_X10_remember dX10_remember_73 rfl).trans ?_
  exact q_getfield mt_X10_remember dX10_remember_74 rfl
theorem e_X10_remember_96 (sc : SC) (p0 : Nat) (x1 : Int32) (h : AH) : Run sc n_X10_remember 96 [aD p0, aI x1] none [] h = some (.inl none, h) := by
  exact q_ret (c := (none, h)) mt_X10_remember dX10_remember_96 rfl
theorem e_X10_remember_33 (sc : SC) (p0 : Nat) (x1 : Int32) (q0 : Nat) (y1 : Int32) (y2 : Int32) (h : AH) : Run sc n_X10_remember 33 [aD p0, aI x1] none [aI y2, aI y1, aD q0] h = bO (stI h (fun t => t == 0) q0 y1 y2) (fun z => Run sc n_X10_remember 34 [aD p0, aI x1] none [] z) := by
  exact q_iastore mt_X10_remember dX10_remember_33
theorem e_X10_remember_77 (sc : SC) (p0 : Nat) (x1 : Int32) (q0 : Nat) (y1 : Int32) (q2 : Nat) (h : AH) : Run sc n_X10_remember 77 [aD p0, aI x1] none [aD q2, aI y1, aD q0] h = bO (ldI sc h (fun t => t == 0) (aD q2) x1) (fun z => Run sc n_X10_remember 79 [aD p0, aI x1] none [aI z, aI y1, aD q0] h) := by
  refine (s_go mt_X10_remember dX10_remember_77 rfl).trans ?_
  exact q_iaload mt_X10_remember dX10_remember_78
theorem e_X10_remember_34 (sc : SC) (p0 : Nat) (x1 : Int32) (h : AH) : Run sc n_X10_remember 34 [aD p0, aI x1] none [] h = Run sc n_X10_remember 11 [aD p0, aI (x1 + nI 1)] none [] h := by
  refine (s_go mt_X10_remember dX10_remember_34 rfl).trans ?_
  refine (s_go mt_X10_remember dX10_remember_37 rfl).trans ?_
  exact rfl
theorem e_X10_remember_79 (sc : SC) (p0 : Nat) (x1 : Int32) (q0 : Nat) (y1 : Int32) (y2 : Int32) (h : AH) : Run sc n_X10_remember 79 [aD p0, aI x1] none [aI y2, aI y1, aD q0] h = bO (stI h (fun t => t == 0) q0 y1 y2) (fun z => Run sc n_X10_remember 80 [aD p0, aI x1] none [] z) := by
  exact q_iastore mt_X10_remember dX10_remember_79
theorem e_X10_remember_80 (sc : SC) (p0 : Nat) (x1 : Int32) (h : AH) : Run sc n_X10_remember 80 [aD p0, aI x1] none [] h = Run sc n_X10_remember 52 [aD p0, aI (x1 + nI 1)] none [] h := by
  refine (s_go mt_X10_remember dX10_remember_80 rfl).trans ?_
  refine (s_go mt_X10_remember dX10_remember_83 rfl).trans ?_
  exact rfl
/-! BranchSlotFillerModel.entryOf(I)I -/
theorem e_X10_entryOf_0 (sc : SC) (p0 : Nat) (x1 : Int32) (v2 : AV) (v3 : AV) (h : AH) : Run sc n_X10_entryOf 0 [aD p0, aI x1, v2, v3] none [] h = Run sc n_X10_entryOf 4 [aD p0, aI x1, aI x1, aI (nI 0)] none [] h := by
  refine (s_go mt_X10_entryOf dX10_entryOf_0 rfl).trans ?_
  refine (s_go mt_X10_entryOf dX10_entryOf_1 rfl).trans ?_
  refine (s_go mt_X10_entryOf dX10_entryOf_2 rfl).trans ?_
  refine (s_go mt_X10_entryOf dX10_entryOf_3 rfl).trans ?_
  exact rfl
theorem e_X10_entryOf_4 (sc : SC) (p0 : Nat) (x1 : Int32) (x2 : Int32) (x3 : Int32) (h : AH) : Run sc n_X10_entryOf 4 [aD p0, aI x1, aI x2, aI x3] none [] h = Run sc n_X10_entryOf (if x1 ≤ x3 then 37 else 9) [aD p0, aI x1, aI x2, aI x3] none [] h := by
  refine (s_go mt_X10_entryOf dX10_entryOf_4 rfl).trans ?_
  refine (s_go mt_X10_entryOf dX10_entryOf_5 rfl).trans ?_
  exact q_icmp mt_X10_entryOf dX10_entryOf_6 (fun _ _ _ _ => rfl) rfl
theorem e_X10_entryOf_9 (sc : SC) (p0 : Nat) (x1 : Int32) (x2 : Int32) (x3 : Int32) (h : AH) : Run sc n_X10_entryOf 9 [aD p0, aI x1, aI x2, aI x3] none [] h = bF (getF sc h (aD p0) 12 1) (fun z => Run sc n_X10_entryOf 14 [aD p0, aI x1, aI x2, aI x3] none [z, aI x2] h) := by
  refine (s_go mt_X10_entryOf dX10_entryOf_9 rfl).trans ?_
  refine (s_go mt_X10_entryOf dX10_entryOf_10 rfl).trans ?_
  exact q_getfield mt_X10_entryOf dX10_entryOf_11 rfl
theorem e_X10_entryOf_24 (sc : SC) (p0 : Nat) (x1 : Int32) (x2 : Int32) (x3 : Int32) (y0 : Int32) (h : AH) : Run sc n_X10_entryOf 24 [aD p0, aI x1, aI x2, aI x3] none [aI y0] h = Run sc n_X10_entryOf 29 [aD p0, aI x1, aI x2, aI x3] none [aI (nI 1), aI y0] h := by
  refine (s_go mt_X10_entryOf dX10_entryOf_24 rfl).trans ?_
  refine (s_go mt_X10_entryOf dX10_entryOf_25 rfl).trans ?_
  exact rfl
theorem e_X10_entryOf_28 (sc : SC) (p0 : Nat) (x1 : Int32) (x2 : Int32) (x3 : Int32) (y0 : Int32) (h : AH) : Run sc n_X10_entryOf 28 [aD p0, aI x1, aI x2, aI x3] none [aI y0] h = Run sc n_X10_entryOf 29 [aD p0, aI x1, aI x2, aI x3] none [aI (nI 0), aI y0] h := by
  refine (s_go mt_X10_entryOf dX10_entryOf_28 rfl).trans ?_
  exact rfl
theorem e_X10_entryOf_29 (sc : SC) (p0 : Nat) (x1 : Int32) (x2 : Int32) (x3 : Int32) (y0 : Int32) (y1 : Int32) (h : AH) : Run sc n_X10_entryOf 29 [aD p0, aI x1, aI x2, aI x3] none [aI y1, aI y0] h = Run sc n_X10_entryOf 4 [aD p0, aI x1, aI (y0 + y1), aI (x3 + nI 1)] none [] h := by
  refine (s_go mt_X10_entryOf dX10_entryOf_29 rfl).trans ?_
  refine (s_go mt_X10_entryOf dX10_entryOf_30 rfl).trans ?_
  refine (s_go mt_X10_entryOf dX10_entryOf_31 rfl).trans ?_
  refine (s_go mt_X10_entryOf dX10_entryOf_34 rfl).trans ?_
  exact rfl
theorem e_X10_entryOf_37 (sc : SC) (p0 : Nat) (x1 : Int32) (x2 : Int32) (x3 : Int32) (h : AH) : Run sc n_X10_entryOf 37 [aD p0, aI x1, aI x2, aI x3] none [] h = some (.inl (some (aI x2)), h) := by
  refine (s_go mt_X10_entryOf dX10_entryOf_37 rfl).trans ?_
  exact q_ret (c := (some (aI x2), h)) mt_X10_entryOf dX10_entryOf_38 rfl
theorem e_X10_entryOf_14 (sc : SC) (p0 : Nat) (x1 : Int32) (x2 : Int32) (x3 : Int32) (y0 : Int32) (q1 : Nat) (h : AH) : Run sc n_X10_entryOf 14 [aD p0, aI x1, aI x2, aI x3] none [aD q1, aI y0] h = bO (ldI sc h (fun t => t == 0) (aD q1) ((nI 4) * x3)) (fun z => Run sc n_X10_entryOf 18 [aD p0, aI x1, aI x2, aI x3] none [aI z, aI y0] h) := by
  refine (s_go mt_X10_entryOf dX10_entryOf_14 rfl).trans ?_
  refine (s_go mt_X10_entryOf dX10_entryOf_15 rfl).trans ?_
  refine (s_go mt_X10_entryOf dX10_entryOf_16 rfl).trans ?_
  exact q_iaload mt_X10_entryOf dX10_entryOf_17
theorem e_X10_entryOf_18 (sc : SC) (p0 : Nat) (x1 : Int32) (x2 : Int32) (x3 : Int32) (y0 : Int32) (y1 : Int32) (h : AH) : Run sc n_X10_entryOf 18 [aD p0, aI x1, aI x2, aI x3] none [aI y1, aI y0] h = bC (Call sc n_X10_isBranch [aI y1] h) (fun v z => Run sc n_X10_entryOf 21 [aD p0, aI x1, aI x2, aI x3] none (v.toList ++ [aI y0]) z) (fun E z => some (.inr E, z)) := by
  exact q_cS mt_X10_entryOf dX10_entryOf_18 rfl mt_X10_isBranch rfl rfl
theorem e_X10_entryOf_21 (sc : SC) (p0 : Nat) (x1 : Int32) (x2 : Int32) (x3 : Int32) (y0 : Int32) (y1 : Int32) (h : AH) : Run sc n_X10_entryOf 21 [aD p0, aI x1, aI x2, aI x3] none [aI y1, aI y0] h = Run sc n_X10_entryOf (if y1 = 0 then 28 else 24) [aD p0, aI x1, aI x2, aI x3] none [aI y0] h := by
  exact q_if mt_X10_entryOf dX10_entryOf_21 (fun _ _ _ _ => rfl) rfl
/-! BranchSlotFillerModel.put(IIIIII)V -/
theorem e_X10_put_0 (sc : SC) (p0 : Nat) (x1 : Int32) (x2 : Int32) (x3 : Int32) (x4 : Int32) (x5 : Int32) (x6 : Int32) (v7 : AV) (h : AH) : Run sc n_X10_put 0 [aD p0, aI x1, aI x2, aI x3, aI x4, aI x5, aI x6, v7] none [] h = bF (getF sc h (aD p0) 12 3) (fun z => Run sc n_X10_put 11 [aD p0, aI x1, aI x2, aI x3, aI x4, aI x5, aI x6, aI ((nI 1) + ((nI 5) * x1))] none [z] h) := by
  refine (s_go mt_X10_put dX10_put_0 rfl).trans ?_
  refine (s_go mt_X10_put dX10_put_1 rfl).trans ?_
  refine (s_go mt_X10_put dX10_put_2 rfl).trans ?_
  refine (s_go mt_X10_put dX10_put_3 rfl).trans ?_
  refine (s_go mt_X10_put dX10_put_4 rfl).trans ?_
  refine (s_go mt_X10_put dX10_put_5 rfl).trans ?_
  refine (s_go mt_X10_put dX10_put_7 rfl).trans ?_
  exact q_getfield mt_X10_put dX10_put_8 rfl
theorem e_X10_put_11 (sc : SC) (p0 : Nat) (x1 : Int32) (x2 : Int32) (x3 : Int32) (x4 : Int32) (x5 : Int32) (x6 : Int32) (x7 : Int32) (q0 : Nat) (h : AH) : Run sc n_X10_put 11 [aD p0, aI x1, aI x2, aI x3, aI x4, aI x5, aI x6, aI x7] none [aD q0] h = bO (stI h (fun t => t == 0) q0 x7 x2) (fun z => Run sc n_X10_put 15 [aD p0, aI x1, aI x2, aI x3, aI x4, aI x5, aI x6, aI x7] none [] z) := by
  refine (s_go mt_X10_put dX10_put_11 rfl).trans ?_
  refine (s_go mt_X10_put dX10_put_13 rfl).trans ?_
  exact q_iastore mt_X10_put dX10_put_14
theorem e_X10_put_15 (sc : SC) (p0 : Nat) (x1 : Int32) (x2 : Int32) (x3 : Int32) (x4 : Int32) (x5 : Int32) (x6 : Int32) (x7 : Int32) (h : AH) : Run sc n_X10_put 15 [aD p0, aI x1, aI x2, aI x3, aI x4, aI x5, aI x6, aI x7] none [] h = bF (getF sc h (aD p0) 12 3) (fun z => Run sc n_X10_put 19 [aD p0, aI x1, aI x2, aI x3, aI x4, aI x5, aI x6, aI x7] none [z] h) := by
  refine (s_go mt_X10_put dX10_put_15 rfl).trans ?_
  exact q_getfield mt_X10_put dX10_put_16 rfl
theorem e_X10_put_19 (sc : SC) (p0 : Nat) (x1 : Int32) (x2 : Int32) (x3 : Int32) (x4 : Int32) (x5 : Int32) (x6 : Int32) (x7 : Int32) (q0 : Nat) (h : AH) : Run sc n_X10_put 19 [aD p0, aI x1, aI x2, aI x3, aI x4, aI x5, aI x6, aI x7] none [aD q0] h = bO (stI h (fun t => t == 0) q0 (x7 + (nI 1)) x3) (fun z => Run sc n_X10_put 25 [aD p0, aI x1, aI x2, aI x3, aI x4, aI x5, aI x6, aI x7] none [] z) := by
  refine (s_go mt_X10_put dX10_put_19 rfl).trans ?_
  refine (s_go mt_X10_put dX10_put_21 rfl).trans ?_
  refine (s_go mt_X10_put dX10_put_22 rfl).trans ?_
  refine (s_go mt_X10_put dX10_put_23 rfl).trans ?_
  exact q_iastore mt_X10_put dX10_put_24
theorem e_X10_put_25 (sc : SC) (p0 : Nat) (x1 : Int32) (x2 : Int32) (x3 : Int32) (x4 : Int32) (x5 : Int32) (x6 : Int32) (x7 : Int32) (h : AH) : Run sc n_X10_put 25 [aD p0, aI x1, aI x2, aI x3, aI x4, aI x5, aI x6, aI x7] none [] h = bF (getF sc h (aD p0) 12 3) (fun z => Run sc n_X10_put 29 [aD p0, aI x1, aI x2, aI x3, aI x4, aI x5, aI x6, aI x7] none [z] h) := by
  refine (s_go mt_X10_put dX10_put_25 rfl).trans ?_
  exact q_getfield mt_X10_put dX10_put_26 rfl
theorem e_X10_put_29 (sc : SC) (p0 : Nat) (x1 : Int32) (x2 : Int32) (x3 : Int32) (x4 : Int32) (x5 : Int32) (x6 : Int32) (x7 : Int32) (q0 : Nat) (h : AH) : Run sc n_X10_put 29 [aD p0, aI x1, aI x2, aI x3, aI x4, aI x5, aI x6, aI x7] none [aD q0] h = bO (stI h (fun t => t == 0) q0 (x7 + (nI 2)) x4) (fun z => Run sc n_X10_put 36 [aD p0, aI x1, aI x2, aI x3, aI x4, aI x5, aI x6, aI x7] none [] z) := by
  refine (s_go mt_X10_put dX10_put_29 rfl).trans ?_
  refine (s_go mt_X10_put dX10_put_31 rfl).trans ?_
  refine (s_go mt_X10_put dX10_put_32 rfl).trans ?_
  refine (s_go mt_X10_put dX10_put_33 rfl).trans ?_
  exact q_iastore mt_X10_put dX10_put_35
theorem e_X10_put_36 (sc : SC) (p0 : Nat) (x1 : Int32) (x2 : Int32) (x3 : Int32) (x4 : Int32) (x5 : Int32) (x6 : Int32) (x7 : Int32) (h : AH) : Run sc n_X10_put 36 [aD p0, aI x1, aI x2, aI x3, aI x4, aI x5, aI x6, aI x7] none [] h = bF (getF sc h (aD p0) 12 3) (fun z => Run sc n_X10_put 40 [aD p0, aI x1, aI x2, aI x3, aI x4, aI x5, aI x6, aI x7] none [z] h) := by
  refine (s_go mt_X10_put dX10_put_36 rfl).trans ?_
  exact q_getfield mt_X10_put dX10_put_37 rfl
theorem e_X10_put_40 (sc : SC) (p0 : Nat) (x1 : Int32) (x2 : Int32) (x3 : Int32) (x4 : Int32) (x5 : Int32) (x6 : Int32) (x7 : Int32) (q0 : Nat) (h : AH) : Run sc n_X10_put 40 [aD p0, aI x1, aI x2, aI x3, aI x4, aI x5, aI x6, aI x7] none [aD q0] h = bO (stI h (fun t => t == 0) q0 (x7 + (nI 3)) x5) (fun z => Run sc n_X10_put 47 [aD p0, aI x1, aI x2, aI x3, aI x4, aI x5, aI x6, aI x7] none [] z) := by
  refine (s_go mt_X10_put dX10_put_40 rfl).trans ?_
  refine (s_go mt_X10_put dX10_put_42 rfl).trans ?_
  refine (s_go mt_X10_put dX10_put_43 rfl).trans ?_
  refine (s_go mt_X10_put dX10_put_44 rfl).trans ?_
  exact q_iastore mt_X10_put dX10_put_46
theorem e_X10_put_47 (sc : SC) (p0 : Nat) (x1 : Int32) (x2 : Int32) (x3 : Int32) (x4 : Int32) (x5 : Int32) (x6 : Int32) (x7 : Int32) (h : AH) : Run sc n_X10_put 47 [aD p0, aI x1, aI x2, aI x3, aI x4, aI x5, aI x6, aI x7] none [] h = bF (getF sc h (aD p0) 12 3) (fun z => Run sc n_X10_put 51 [aD p0, aI x1, aI x2, aI x3, aI x4, aI x5, aI x6, aI x7] none [z] h) := by
  refine (s_go mt_X10_put dX10_put_47 rfl).trans ?_
  exact q_getfield mt_X10_put dX10_put_48 rfl
theorem e_X10_put_51 (sc : SC) (p0 : Nat) (x1 : Int32) (x2 : Int32) (x3 : Int32) (x4 : Int32) (x5 : Int32) (x6 : Int32) (x7 : Int32) (q0 : Nat) (h : AH) : Run sc n_X10_put 51 [aD p0, aI x1, aI x2, aI x3, aI x4, aI x5, aI x6, aI x7] none [aD q0] h = bO (stI h (fun t => t == 0) q0 (x7 + (nI 4)) x6) (fun z => Run sc n_X10_put 58 [aD p0, aI x1, aI x2, aI x3, aI x4, aI x5, aI x6, aI x7] none [] z) := by
  refine (s_go mt_X10_put dX10_put_51 rfl).trans ?_
  refine (s_go mt_X10_put dX10_put_53 rfl).trans ?_
  refine (s_go mt_X10_put dX10_put_54 rfl).trans ?_
  refine (s_go mt_X10_put dX10_put_55 rfl).trans ?_
  exact q_iastore mt_X10_put dX10_put_57
theorem e_X10_put_58 (sc : SC) (p0 : Nat) (x1 : Int32) (x2 : Int32) (x3 : Int32) (x4 : Int32) (x5 : Int32) (x6 : Int32) (x7 : Int32) (h : AH) : Run sc n_X10_put 58 [aD p0, aI x1, aI x2, aI x3, aI x4, aI x5, aI x6, aI x7] none [] h = some (.inl none, h) := by
  exact q_ret (c := (none, h)) mt_X10_put dX10_put_58 rfl
/-! BranchSlotFillerModel.expand()I -/
theorem e_X10_expand_0 (sc : SC) (p0 : Nat) (v1 : AV) (v2 : AV) (v3 : AV) (h : AH) : Run sc n_X10_expand 0 [aD p0, v1, v2, v3] none [] h = bO (putF h p0 12 0 0 (aI (nI 0))) (fun z => Run sc n_X10_expand 5 [aD p0, v1, v2, v3] none [] z) := by
  refine (s_go mt_X10_expand dX10_expand_0 rfl).trans ?_
  refine (s_go mt_X10_expand dX10_expand_1 rfl).trans ?_
  exact q_putfield mt_X10_expand dX10_expand_2 rfl rfl rfl rfl
theorem e_X10_expand_18 (sc : SC) (p0 : Nat) (x1 : Int32) (v2 : AV) (v3 : AV) (h : AH) : Run sc n_X10_expand 18 [aD p0, aI x1, v2, v3] none [] h = bF (getF sc h (aD p0) 12 2) (fun z => Run sc n_X10_expand 23 [aD p0, aI x1, v2, v3] none [z, aI x1] h) := by
  refine (s_go mt_X10_expand dX10_expand_18 rfl).trans ?_
  refine (s_go mt_X10_expand dX10_expand_19 rfl).trans ?_
  exact q_getfield mt_X10_expand dX10_expand_20 rfl
theorem e_X10_expand_26 (sc : SC) (p0 : Nat) (x1 : Int32) (v2 : AV) (v3 : AV) (h : AH) : Run sc n_X10_expand 26 [aD p0, aI x1, v2, v3] none [] h = bF (getF sc h (aD p0) 12 1) (fun z => Run sc n_X10_expand 34 [aD p0, aI x1, aI ((nI 4) * x1), v3] none [z] h) := by
  refine (s_go mt_X10_expand dX10_expand_26 rfl).trans ?_
  refine (s_go mt_X10_expand dX10_expand_27 rfl).trans ?_
  refine (s_go mt_X10_expand dX10_expand_28 rfl).trans ?_
  refine (s_go mt_X10_expand dX10_expand_29 rfl).trans ?_
  refine (s_go mt_X10_expand dX10_expand_30 rfl).trans ?_
  exact q_getfield mt_X10_expand dX10_expand_31 rfl
theorem e_X10_expand_73 (sc : SC) (p0 : Nat) (x1 : Int32) (x2 : Int32) (x3 : Int32) (q0 : Nat) (y1 : Int32) (y2 : Int32) (y3 : Int32) (y4 : Int32) (h : AH) : Run sc n_X10_expand 73 [aD p0, aI x1, aI x2, aI x3] none [aI y4, aI y3, aI y2, aI y1, aD q0] h = bF (getF sc h (aD p0) 12 1) (fun z => Run sc n_X10_expand 78 [aD p0, aI x1, aI x2, aI x3] none [z, aD p0, aI y4, aI y3, aI y2, aI y1, aD q0] h) := by
  refine (s_go mt_X10_expand dX10_expand_73 rfl).trans ?_
  refine (s_go mt_X10_expand dX10_expand_74 rfl).trans ?_
  exact q_getfield mt_X10_expand dX10_expand_75 rfl
theorem e_X10_expand_88 (sc : SC) (p0 : Nat) (x1 : Int32) (x2 : Int32) (x3 : Int32) (q0 : Nat) (y1 : Int32) (y2 : Int32) (y3 : Int32) (y4 : Int32) (h : AH) : Run sc n_X10_expand 88 [aD p0, aI x1, aI x2, aI x3] none [aI y4, aI y3, aI y2, aI y1, aD q0] h = bF (getF sc h (aD p0) 12 1) (fun z => Run sc n_X10_expand 92 [aD p0, aI x1, aI x2, aI x3] none [z, aI y4, aI y3, aI y2, aI y1, aD q0] h) := by
  refine (s_go mt_X10_expand dX10_expand_88 rfl).trans ?_
  exact q_getfield mt_X10_expand dX10_expand_89 rfl
theorem e_X10_expand_96 (sc : SC) (p0 : Nat) (x1 : Int32) (x2 : Int32) (x3 : Int32) (q0 : Nat) (y1 : Int32) (y2 : Int32) (y3 : Int32) (y4 : Int32) (y5 : Int32) (h : AH) : Run sc n_X10_expand 96 [aD p0, aI x1, aI x2, aI x3] none [aI y5, aI y4, aI y3, aI y2, aI y1, aD q0] h = bI (rOK sc h (aD q0) 12 = true) (bC (Call sc n_X10_put [aD q0, aI y1, aI y2, aI y3, aI y4, aI y5, aI (nI 0)] h) (fun v z => Run sc n_X10_expand 100 [aD p0, aI x1, aI x2, aI x3] none (v.toList ++ []) z) (fun E z => some (.inr E, z))) := by
  refine (s_go mt_X10_expand dX10_expand_96 rfl).trans ?_
  exact q_cV mt_X10_expand dX10_expand_97 rfl mt_X10_put rfl rfl rfl
theorem e_X10_expand_114 (sc : SC) (p0 : Nat) (x1 : Int32) (x2 : Int32) (x3 : Int32) (h : AH) : Run sc n_X10_expand 114 [aD p0, aI x1, aI x2, aI x3] none [] h = bF (getF sc h (aD p0) 12 3) (fun z => Run sc n_X10_expand 119 [aD p0, aI x1, aI x2, aI x3] none [z, aD p0] h) := by
  refine (s_go mt_X10_expand dX10_expand_114 rfl).trans ?_
  refine (s_go mt_X10_expand dX10_expand_115 rfl).trans ?_
  exact q_getfield mt_X10_expand dX10_expand_116 rfl
theorem e_X10_expand_139 (sc : SC) (p0 : Nat) (x1 : Int32) (x2 : Int32) (x3 : Int32) (h : AH) : Run sc n_X10_expand 139 [aD p0, aI x1, aI x2, aI x3] none [] h = Run sc n_X10_expand 18 [aD p0, aI (x1 + nI 1), aI x2, aI x3] none [] h := by
  refine (s_go mt_X10_expand dX10_expand_139 rfl).trans ?_
  refine (s_go mt_X10_expand dX10_expand_142 rfl).trans ?_
  exact rfl
theorem e_X10_expand_145 (sc : SC) (p0 : Nat) (x1 : Int32) (v2 : AV) (v3 : AV) (h : AH) : Run sc n_X10_expand 145 [aD p0, aI x1, v2, v3] none [] h = bF (getF sc h (aD p0) 12 3) (fun z => Run sc n_X10_expand 149 [aD p0, aI x1, v2, v3] none [z] h) := by
  refine (s_go mt_X10_expand dX10_expand_145 rfl).trans ?_
  exact q_getfield mt_X10_expand dX10_expand_146 rfl
theorem e_X10_expand_5 (sc : SC) (p0 : Nat) (v1 : AV) (v2 : AV) (v3 : AV) (h : AH) : Run sc n_X10_expand 5 [aD p0, v1, v2, v3] none [] h = bI (rOK sc h (aD p0) 12 = true) (bC (Call sc n_X10_remember [aD p0] h) (fun v z => Run sc n_X10_expand 9 [aD p0, v1, v2, v3] none (v.toList ++ []) z) (fun E z => some (.inr E, z))) := by
  refine (s_go mt_X10_expand dX10_expand_5 rfl).trans ?_
  exact q_cV mt_X10_expand dX10_expand_6 rfl mt_X10_remember rfl rfl rfl
theorem e_X10_expand_23 (sc : SC) (p0 : Nat) (x1 : Int32) (v2 : AV) (v3 : AV) (y0 : Int32) (y1 : Int32) (h : AH) : Run sc n_X10_expand 23 [aD p0, aI x1, v2, v3] none [aI y1, aI y0] h = Run sc n_X10_expand (if y1 ≤ y0 then 145 else 26) [aD p0, aI x1, v2, v3] none [] h := by
  exact q_icmp mt_X10_expand dX10_expand_23 (fun _ _ _ _ => rfl) rfl
theorem e_X10_expand_34 (sc : SC) (p0 : Nat) (x1 : Int32) (x2 : Int32) (v3 : AV) (q0 : Nat) (h : AH) : Run sc n_X10_expand 34 [aD p0, aI x1, aI x2, v3] none [aD q0] h = bO (ldI sc h (fun t => t == 0) (aD q0) x2) (fun z => Run sc n_X10_expand 36 [aD p0, aI x1, aI x2, v3] none [aI z] h) := by
  refine (s_go mt_X10_expand dX10_expand_34 rfl).trans ?_
  exact q_iaload mt_X10_expand dX10_expand_35
theorem e_X10_expand_78 (sc : SC) (p0 : Nat) (x1 : Int32) (x2 : Int32) (x3 : Int32) (q0 : Nat) (y1 : Int32) (y2 : Int32) (y3 : Int32) (y4 : Int32) (q5 : Nat) (q6 : Nat) (h : AH) : Run sc n_X10_expand 78 [aD p0, aI x1, aI x2, aI x3] none [aD q6, aD q5, aI y4, aI y3, aI y2, aI y1, aD q0] h = bO (ldI sc h (fun t => t == 0) (aD q6) (x2 + (nI 3))) (fun z => Run sc n_X10_expand 82 [aD p0, aI x1, aI x2, aI x3] none [aI z, aD q5, aI y4, aI y3, aI y2, aI y1, aD q0] h) := by
  refine (s_go mt_X10_expand dX10_expand_78 rfl).trans ?_
  refine (s_go mt_X10_expand dX10_expand_79 rfl).trans ?_
  refine (s_go mt_X10_expand dX10_expand_80 rfl).trans ?_
  exact q_iaload mt_X10_expand dX10_expand_81
theorem e_X10_expand_92 (sc : SC) (p0 : Nat) (x1 : Int32) (x2 : Int32) (x3 : Int32) (q0 : Nat) (y1 : Int32) (y2 : Int32) (y3 : Int32) (y4 : Int32) (q5 : Nat) (h : AH) : Run sc n_X10_expand 92 [aD p0, aI x1, aI x2, aI x3] none [aD q5, aI y4, aI y3, aI y2, aI y1, aD q0] h = bO (ldI sc h (fun t => t == 0) (aD q5) (x2 + (nI 3))) (fun z => Run sc n_X10_expand 96 [aD p0, aI x1, aI x2, aI x3] none [aI z, aI y4, aI y3, aI y2, aI y1, aD q0] h) := by
  refine (s_go mt_X10_expand dX10_expand_92 rfl).trans ?_
  refine (s_go mt_X10_expand dX10_expand_93 rfl).trans ?_
  refine (s_go mt_X10_expand dX10_expand_94 rfl).trans ?_
  exact q_iaload mt_X10_expand dX10_expand_95
theorem e_X10_expand_100 (sc : SC) (p0 : Nat) (x1 : Int32) (x2 : Int32) (x3 : Int32) (h : AH) : Run sc n_X10_expand 100 [aD p0, aI x1, aI x2, aI x3] none [] h = bF (getF sc h (aD p0) 12 3) (fun z => Run sc n_X10_expand 104 [aD p0, aI x1, aI x2, aI x3] none [z] h) := by
  refine (s_go mt_X10_expand dX10_expand_100 rfl).trans ?_
  exact q_getfield mt_X10_expand dX10_expand_101 rfl
theorem e_X10_expand_119 (sc : SC) (p0 : Nat) (x1 : Int32) (x2 : Int32) (x3 : Int32) (q0 : Nat) (q1 : Nat) (h : AH) : Run sc n_X10_expand 119 [aD p0, aI x1, aI x2, aI x3] none [aD q1, aD q0] h = bO (ldI sc h (fun t => t == 0) (aD q1) (nI 0)) (fun z => Run sc n_X10_expand 121 [aD p0, aI x1, aI x2, aI x3] none [aI z, aD q0] h) := by
  refine (s_go mt_X10_expand dX10_expand_119 rfl).trans ?_
  exact q_iaload mt_X10_expand dX10_expand_120
theorem e_X10_expand_149 (sc : SC) (p0 : Nat) (x1 : Int32) (v2 : AV) (v3 : AV) (q0 : Nat) (h : AH) : Run sc n_X10_expand 149 [aD p0, aI x1, v2, v3] none [aD q0] h = bO (ldI sc h (fun t => t == 0) (aD q0) (nI 0)) (fun z => Run sc n_X10_expand 151 [aD p0, aI x1, v2, v3] none [aI z] h) := by
  refine (s_go mt_X10_expand dX10_expand_149 rfl).trans ?_
  exact q_iaload mt_X10_expand dX10_expand_150
theorem e_X10_expand_9 (sc : SC) (p0 : Nat) (v1 : AV) (v2 : AV) (v3 : AV) (h : AH) : Run sc n_X10_expand 9 [aD p0, v1, v2, v3] none [] h = bF (getF sc h (aD p0) 12 3) (fun z => Run sc n_X10_expand 13 [aD p0, v1, v2, v3] none [z] h) := by
  refine (s_go mt_X10_expand dX10_expand_9 rfl).trans ?_
  exact q_getfield mt_X10_expand dX10_expand_10 rfl
theorem e_X10_expand_36 (sc : SC) (p0 : Nat) (x1 : Int32) (x2 : Int32) (v3 : AV) (y0 : Int32) (h : AH) : Run sc n_X10_expand 36 [aD p0, aI x1, aI x2, v3] none [aI y0] h = bC (Call sc n_X10_isBranch [aI y0] h) (fun v z => Run sc n_X10_expand 39 [aD p0, aI x1, aI x2, v3] none (v.toList ++ []) z) (fun E z => some (.inr E, z)) := by
  exact q_cS mt_X10_expand dX10_expand_36 rfl mt_X10_isBranch rfl rfl
theorem e_X10_expand_82 (sc : SC) (p0 : Nat) (x1 : Int32) (x2 : Int32) (x3 : Int32) (q0 : Nat) (y1 : Int32) (y2 : Int32) (y3 : Int32) (y4 : Int32) (q5 : Nat) (y6 : Int32) (h : AH) : Run sc n_X10_expand 82 [aD p0, aI x1, aI x2, aI x3] none [aI y6, aD q5, aI y4, aI y3, aI y2, aI y1, aD q0] h = bI (rOK sc h (aD q5) 12 = true) (bC (Call sc n_X10_entryOf [aD q5, aI y6] h) (fun v z => Run sc n_X10_expand 85 [aD p0, aI x1, aI x2, aI x3] none (v.toList ++ [aI y4, aI y3, aI y2, aI y1, aD q0]) z) (fun E z => some (.inr E, z))) := by
  exact q_cV mt_X10_expand dX10_expand_82 rfl mt_X10_entryOf rfl rfl rfl
theorem e_X10_expand_104 (sc : SC) (p0 : Nat) (x1 : Int32) (x2 : Int32) (x3 : Int32) (q0 : Nat) (h : AH) : Run sc n_X10_expand 104 [aD p0, aI x1, aI x2, aI x3] none [aD q0] h = bO (ldI sc h (fun t => t == 0) (aD q0) (nI 0)) (fun z => Run sc n_X10_expand 107 [aD p0, aI x1, aI x2, aI x3] none [aI z, aI (nI 0), aD q0] h) := by
  refine (s_go mt_X10_expand dX10_expand_104 rfl).trans ?_
  refine (s_go mt_X10_expand dX10_expand_105 rfl).trans ?_
  exact q_iaload mt_X10_expand dX10_expand_106
theorem e_X10_expand_121 (sc : SC) (p0 : Nat) (x1 : Int32) (x2 : Int32) (x3 : Int32) (q0 : Nat) (y1 : Int32) (h : AH) : Run sc n_X10_expand 121 [aD p0, aI x1, aI x2, aI x3] none [aI y1, aD q0] h = bI (rOK sc h (aD q0) 12 = true) (bC (Call sc n_X10_put [aD q0, aI y1, aI (nI 0), aI (nI 0), aI (nI 0), aI (nI 0), aI (nI 0)] h) (fun v z => Run sc n_X10_expand 129 [aD p0, aI x1, aI x2, aI x3] none (v.toList ++ []) z) (fun E z => some (.inr E, z))) := by
  refine (s_go mt_X10_expand dX10_expand_121 rfl).trans ?_
  refine (s_go mt_X10_expand dX10_expand_122 rfl).trans ?_
  refine (s_go mt_X10_expand dX10_expand_123 rfl).trans ?_
  refine (s_go mt_X10_expand dX10_expand_124 rfl).trans ?_
  refine (s_go mt_X10_expand dX10_expand_125 rfl).trans ?_
  exact q_cV mt_X10_expand dX10_expand_126 rfl mt_X10_put rfl rfl rfl
theorem e_X10_expand_151 (sc : SC) (p0 : Nat) (x1 : Int32) (v2 : AV) (v3 : AV) (y0 : Int32) (h : AH) : Run sc n_X10_expand 151 [aD p0, aI x1, v2, v3] none [aI y0] h = some (.inl (some (aI y0)), h) := by
  exact q_ret (c := (some (aI y0), h)) mt_X10_expand dX10_expand_151 rfl
theorem e_X10_expand_13 (sc : SC) (p0 : Nat) (v1 : AV) (v2 : AV) (v3 : AV) (q0 : Nat) (h : AH) : Run sc n_X10_expand 13 [aD p0, v1, v2, v3] none [aD q0] h = bO (stI h (fun t => t == 0) q0 (nI 0) (nI 0)) (fun z => Run sc n_X10_expand 16 [aD p0, v1, v2, v3] none [] z) := by
  refine (s_go mt_X10_expand dX10_expand_13 rfl).trans ?_
  refine (s_go mt_X10_expand dX10_expand_14 rfl).trans ?_
  exact q_iastore mt_X10_expand dX10_expand_15
theorem e_X10_expand_39 (sc : SC) (p0 : Nat) (x1 : Int32) (x2 : Int32) (v3 : AV) (y0 : Int32) (h : AH) : Run sc n_X10_expand 39 [aD p0, aI x1, aI x2, v3] none [aI y0] h = bF (getF sc h (aD p0) 12 3) (fun z => Run sc n_X10_expand 45 [aD p0, aI x1, aI x2, aI y0] none [z, aD p0] h) := by
  refine (s_go mt_X10_expand dX10_expand_39 rfl).trans ?_
  refine (s_go mt_X10_expand dX10_expand_40 rfl).trans ?_
  refine (s_go mt_X10_expand dX10_expand_41 rfl).trans ?_
  exact q_getfield mt_X10_expand dX10_expand_42 rfl
theorem e_X10_expand_85 (sc : SC) (p0 : Nat) (x1 : Int32) (x2 : Int32) (x3 : Int32) (q0 : Nat) (y1 : Int32) (y2 : Int32) (y3 : Int32) (y4 : Int32) (y5 : Int32) (h : AH) : Run sc n_X10_expand 85 [aD p0, aI x1, aI x2, aI x3] none [aI y5, aI y4, aI y3, aI y2, aI y1, aD q0] h = Run sc n_X10_expand 96 [aD p0, aI x1, aI x2, aI x3] none [aI y5, aI y4, aI y3, aI y2, aI y1, aD q0] h := by
  refine (s_go mt_X10_expand dX10_expand_85 rfl).trans ?_
  exact rfl
theorem e_X10_expand_107 (sc : SC) (p0 : Nat) (x1 : Int32) (x2 : Int32) (x3 : Int32) (q0 : Nat) (y1 : Int32) (y2 : Int32) (h : AH) : Run sc n_X10_expand 107 [aD p0, aI x1, aI x2, aI x3] none [aI y2, aI y1, aD q0] h = bO (stI h (fun t => t == 0) q0 y1 (y2 + (nI 1))) (fun z => Run sc n_X10_expand 110 [aD p0, aI x1, aI x2, aI x3] none [] z) := by
  refine (s_go mt_X10_expand dX10_expand_107 rfl).trans ?_
  refine (s_go mt_X10_expand dX10_expand_108 rfl).trans ?_
  exact q_iastore mt_X10_expand dX10_expand_109
theorem e_X10_expand_129 (sc : SC) (p0 : Nat) (x1 : Int32) (x2 : Int32) (x3 : Int32) (h : AH) : Run sc n_X10_expand 129 [aD p0, aI x1, aI x2, aI x3] none [] h = bF (getF sc h (aD p0) 12 3) (fun z => Run sc n_X10_expand 133 [aD p0, aI x1, aI x2, aI x3] none [z] h) := by
  refine (s_go mt_X10_expand dX10_expand_129 rfl).trans ?_
  exact q_getfield mt_X10_expand dX10_expand_130 rfl
theorem e_X10_expand_16 (sc : SC) (p0 : Nat) (v1 : AV) (v2 : AV) (v3 : AV) (h : AH) : Run sc n_X10_expand 16 [aD p0, v1, v2, v3] none [] h = Run sc n_X10_expand 18 [aD p0, aI (nI 0), v2, v3] none [] h := by
  refine (s_go mt_X10_expand dX10_expand_16 rfl).trans ?_
  refine (s_go mt_X10_expand dX10_expand_17 rfl).trans ?_
  exact rfl
theorem e_X10_expand_45 (sc : SC) (p0 : Nat) (x1 : Int32) (x2 : Int32) (x3 : Int32) (q0 : Nat) (q1 : Nat) (h : AH) : Run sc n_X10_expand 45 [aD p0, aI x1, aI x2, aI x3] none [aD q1, aD q0] h = bO (ldI sc h (fun t => t == 0) (aD q1) (nI 0)) (fun z => Run sc n_X10_expand 47 [aD p0, aI x1, aI x2, aI x3] none [aI z, aD q0] h) := by
  refine (s_go mt_X10_expand dX10_expand_45 rfl).trans ?_
  exact q_iaload mt_X10_expand dX10_expand_46
theorem e_X10_expand_110 (sc : SC) (p0 : Nat) (x1 : Int32) (x2 : Int32) (x3 : Int32) (h : AH) : Run sc n_X10_expand 110 [aD p0, aI x1, aI x2, aI x3] none [] h = Run sc n_X10_expand (if x3 = 0 then 139 else 114) [aD p0, aI x1, aI x2, aI x3] none [] h := by
  refine (s_go mt_X10_expand dX10_expand_110 rfl).trans ?_
  exact q_if mt_X10_expand dX10_expand_111 (fun _ _ _ _ => rfl) rfl
theorem e_X10_expand_133 (sc : SC) (p0 : Nat) (x1 : Int32) (x2 : Int32) (x3 : Int32) (q0 : Nat) (h : AH) : Run sc n_X10_expand 133 [aD p0, aI x1, aI x2, aI x3] none [aD q0] h = bO (ldI sc h (fun t => t == 0) (aD q0) (nI 0)) (fun z => Run sc n_X10_expand 136 [aD p0, aI x1, aI x2, aI x3] none [aI z, aI (nI 0), aD q0] h) := by
  refine (s_go mt_X10_expand dX10_expand_133 rfl).trans ?_
  refine (s_go mt_X10_expand dX10_expand_134 rfl).trans ?_
  exact q_iaload mt_X10_expand dX10_expand_135
theorem e_X10_expand_47 (sc : SC) (p0 : Nat) (x1 : Int32) (x2 : Int32) (x3 : Int32) (q0 : Nat) (y1 : Int32) (h : AH) : Run sc n_X10_expand 47 [aD p0, aI x1, aI x2, aI x3] none [aI y1, aD q0] h = bF (getF sc h (aD p0) 12 1) (fun z => Run sc n_X10_expand 51 [aD p0, aI x1, aI x2, aI x3] none [z, aI y1, aD q0] h) := by
  refine (s_go mt_X10_expand dX10_expand_47 rfl).trans ?_
  exact q_getfield mt_X10_expand dX10_expand_48 rfl
theorem e_X10_expand_136 (sc : SC) (p0 : Nat) (x1 : Int32) (x2 : Int32) (x3 : Int32) (q0 : Nat) (y1 : Int32) (y2 : Int32) (h : AH) : Run sc n_X10_expand 136 [aD p0, aI x1, aI x2, aI x3] none [aI y2, aI y1, aD q0] h = bO (stI h (fun t => t == 0) q0 y1 (y2 + (nI 1))) (fun z => Run sc n_X10_expand 139 [aD p0, aI x1, aI x2, aI x3] none [] z) := by
  refine (s_go mt_X10_expand dX10_expand_136 rfl).trans ?_
  refine (s_go mt_X10_expand dX10_expand_137 rfl).trans ?_
  exact q_iastore mt_X10_expand dX10_expand_138
theorem e_X10_expand_51 (sc : SC) (p0 : Nat) (x1 : Int32) (x2 : Int32) (x3 : Int32) (q0 : Nat) (y1 : Int32) (q2 : Nat) (h : AH) : Run sc n_X10_expand 51 [aD p0, aI x1, aI x2, aI x3] none [aD q2, aI y1, aD q0] h = bO (ldI sc h (fun t => t == 0) (aD q2) x2) (fun z => Run sc n_X10_expand 53 [aD p0, aI x1, aI x2, aI x3] none [aI z, aI y1, aD q0] h) := by
  refine (s_go mt_X10_expand dX10_expand_51 rfl).trans ?_
  exact q_iaload mt_X10_expand dX10_expand_52
theorem e_X10_expand_53 (sc : SC) (p0 : Nat) (x1 : Int32) (x2 : Int32) (x3 : Int32) (q0 : Nat) (y1 : Int32) (y2 : Int32) (h : AH) : Run sc n_X10_expand 53 [aD p0, aI x1, aI x2, aI x3] none [aI y2, aI y1, aD q0] h = bF (getF sc h (aD p0) 12 1) (fun z => Run sc n_X10_expand 57 [aD p0, aI x1, aI x2, aI x3] none [z, aI y2, aI y1, aD q0] h) := by
  refine (s_go mt_X10_expand dX10_expand_53 rfl).trans ?_
  exact q_getfield mt_X10_expand dX10_expand_54 rfl
theorem e_X10_expand_57 (sc : SC) (p0 : Nat) (x1 : Int32) (x2 : Int32) (x3 : Int32) (q0 : Nat) (y1 : Int32) (y2 : Int32) (q3 : Nat) (h : AH) : Run sc n_X10_expand 57 [aD p0, aI x1, aI x2, aI x3] none [aD q3, aI y2, aI y1, aD q0] h = bO (ldI sc h (fun t => t == 0) (aD q3) (x2 + (nI 1))) (fun z => Run sc n_X10_expand 61 [aD p0, aI x1, aI x2, aI x3] none [aI z, aI y2, aI y1, aD q0] h) := by
  refine (s_go mt_X10_expand dX10_expand_57 rfl).trans ?_
  refine (s_go mt_X10_expand dX10_expand_58 rfl).trans ?_
  refine (s_go mt_X10_expand dX10_expand_59 rfl).trans ?_
  exact q_iaload mt_X10_expand dX10_expand_60
theorem e_X10_expand_61 (sc : SC) (p0 : Nat) (x1 : Int32) (x2 : Int32) (x3 : Int32) (q0 : Nat) (y1 : Int32) (y2 : Int32) (y3 : Int32) (h : AH) : Run sc n_X10_expand 61 [aD p0, aI x1, aI x2, aI x3] none [aI y3, aI y2, aI y1, aD q0] h = bF (getF sc h (aD p0) 12 1) (fun z => Run sc n_X10_expand 65 [aD p0, aI x1, aI x2, aI x3] none [z, aI y3, aI y2, aI y1, aD q0] h) := by
  refine (s_go mt_X10_expand dX10_expand_61 rfl).trans ?_
  exact q_getfield mt_X10_expand dX10_expand_62 rfl
theorem e_X10_expand_65 (sc : SC) (p0 : Nat) (x1 : Int32) (x2 : Int32) (x3 : Int32) (q0 : Nat) (y1 : Int32) (y2 : Int32) (y3 : Int32) (q4 : Nat) (h : AH) : Run sc n_X10_expand 65 [aD p0, aI x1, aI x2, aI x3] none [aD q4, aI y3, aI y2, aI y1, aD q0] h = bO (ldI sc h (fun t => t == 0) (aD q4) (x2 + (nI 2))) (fun z => Run sc n_X10_expand 69 [aD p0, aI x1, aI x2, aI x3] none [aI z, aI y3, aI y2, aI y1, aD q0] h) := by
  refine (s_go mt_X10_expand dX10_expand_65 rfl).trans ?_
  refine (s_go mt_X10_expand dX10_expand_66 rfl).trans ?_
  refine (s_go mt_X10_expand dX10_expand_67 rfl).trans ?_
  exact q_iaload mt_X10_expand dX10_expand_68
theorem e_X10_expand_69 (sc : SC) (p0 : Nat) (x1 : Int32) (x2 : Int32) (x3 : Int32) (q0 : Nat) (y1 : Int32) (y2 : Int32) (y3 : Int32) (y4 : Int32) (h : AH) : Run sc n_X10_expand 69 [aD p0, aI x1, aI x2, aI x3] none [aI y4, aI y3, aI y2, aI y1, aD q0] h = Run sc n_X10_expand (if x3 = 0 then 88 else 73) [aD p0, aI x1, aI x2, aI x3] none [aI y4, aI y3, aI y2, aI y1, aD q0] h := by
  refine (s_go mt_X10_expand dX10_expand_69 rfl).trans ?_
  exact q_if mt_X10_expand dX10_expand_70 (fun _ _ _ _ => rfl) rfl
/-! BranchSlotFillerModel.entryMany()I -/
theorem e_X10_entryMany_0 (sc : SC) (p0 : Nat) (h : AH) : Run sc n_X10_entryMany 0 [aD p0] none [] h = bF (getF sc h (aD p0) 12 3) (fun z => Run sc n_X10_entryMany 4 [aD p0] none [z] h) := by
  refine (s_go mt_X10_entryMany dX10_entryMany_0 rfl).trans ?_
  exact q_getfield mt_X10_entryMany dX10_entryMany_1 rfl
theorem e_X10_entryMany_4 (sc : SC) (p0 : Nat) (q0 : Nat) (h : AH) : Run sc n_X10_entryMany 4 [aD p0] none [aD q0] h = bO (ldI sc h (fun t => t == 0) (aD q0) (nI 0)) (fun z => Run sc n_X10_entryMany 6 [aD p0] none [aI z] h) := by
  refine (s_go mt_X10_entryMany dX10_entryMany_4 rfl).trans ?_
  exact q_iaload mt_X10_entryMany dX10_entryMany_5
theorem e_X10_entryMany_6 (sc : SC) (p0 : Nat) (y0 : Int32) (h : AH) : Run sc n_X10_entryMany 6 [aD p0] none [aI y0] h = some (.inl (some (aI y0)), h) := by
  exact q_ret (c := (some (aI y0), h)) mt_X10_entryMany dX10_entryMany_6 rfl
/-! BranchSlotFillerModel.entries()I -/
theorem e_X10_entries_0 (sc : SC) (p0 : Nat) (h : AH) : Run sc n_X10_entries 0 [aD p0] none [] h = bO (putF h p0 12 0 0 (aI (nI 0))) (fun z => Run sc n_X10_entries 5 [aD p0] none [] z) := by
  refine (s_go mt_X10_entries dX10_entries_0 rfl).trans ?_
  refine (s_go mt_X10_entries dX10_entries_1 rfl).trans ?_
  exact q_putfield mt_X10_entries dX10_entries_2 rfl rfl rfl rfl
theorem e_X10_entries_5 (sc : SC) (p0 : Nat) (h : AH) : Run sc n_X10_entries 5 [aD p0] none [] h = bI (rOK sc h (aD p0) 12 = true) (bC (Call sc n_X10_entryMany [aD p0] h) (fun v z => Run sc n_X10_entries 9 [aD p0] none (v.toList ++ []) z) (fun E z => some (.inr E, z))) := by
  refine (s_go mt_X10_entries dX10_entries_5 rfl).trans ?_
  exact q_cV mt_X10_entries dX10_entries_6 rfl mt_X10_entryMany rfl rfl rfl
theorem e_X10_entries_9 (sc : SC) (p0 : Nat) (y0 : Int32) (h : AH) : Run sc n_X10_entries 9 [aD p0] none [aI y0] h = some (.inl (some (aI y0)), h) := by
  exact q_ret (c := (some (aI y0), h)) mt_X10_entries dX10_entries_9 rfl
/-! BranchSlotFillerModel.isEntry(I)Z -/
theorem e_X10_isEntry_0 (sc : SC) (p0 : Nat) (x1 : Int32) (h : AH) : Run sc n_X10_isEntry 0 [aD p0, aI x1] none [] h = bI (rOK sc h (aD p0) 12 = true) (bC (Call sc n_X10_entryMany [aD p0] h) (fun v z => Run sc n_X10_isEntry 6 [aD p0, aI x1] none (v.toList ++ [aI (nI 0), aI x1]) z) (fun E z => some (.inr E, z))) := by
  refine (s_go mt_X10_isEntry dX10_isEntry_0 rfl).trans ?_
  refine (s_go mt_X10_isEntry dX10_isEntry_1 rfl).trans ?_
  refine (s_go mt_X10_isEntry dX10_isEntry_2 rfl).trans ?_
  exact q_cV mt_X10_isEntry dX10_isEntry_3 rfl mt_X10_entryMany rfl rfl rfl
theorem e_X10_isEntry_6 (sc : SC) (p0 : Nat) (x1 : Int32) (y0 : Int32) (y1 : Int32) (y2 : Int32) (h : AH) : Run sc n_X10_isEntry 6 [aD p0, aI x1] none [aI y2, aI y1, aI y0] h = bC (Call sc n_X10_isIn [aI y0, aI y1, aI (y2 - (nI 1))] h) (fun v z => Run sc n_X10_isEntry 11 [aD p0, aI x1] none (v.toList ++ []) z) (fun E z => some (.inr E, z)) := by
  refine (s_go mt_X10_isEntry dX10_isEntry_6 rfl).trans ?_
  refine (s_go mt_X10_isEntry dX10_isEntry_7 rfl).trans ?_
  exact q_cS mt_X10_isEntry dX10_isEntry_8 rfl mt_X10_isIn rfl rfl
theorem e_X10_isEntry_11 (sc : SC) (p0 : Nat) (x1 : Int32) (y0 : Int32) (h : AH) : Run sc n_X10_isEntry 11 [aD p0, aI x1] none [aI y0] h = bI (retK (some FieldType.boolean) y0 = true) (some (.inl (some (aI y0)), h)) := by
  exact q_iret mt_X10_isEntry dX10_isEntry_11
/-! BranchSlotFillerModel.at(II)I -/
theorem e_X10_at_0 (sc : SC) (p0 : Nat) (x1 : Int32) (x2 : Int32) (h : AH) : Run sc n_X10_at 0 [aD p0, aI x1, aI x2] none [] h = bF (getF sc h (aD p0) 12 3) (fun z => Run sc n_X10_at 4 [aD p0, aI x1, aI x2] none [z] h) := by
  refine (s_go mt_X10_at dX10_at_0 rfl).trans ?_
  exact q_getfield mt_X10_at dX10_at_1 rfl
theorem e_X10_at_4 (sc : SC) (p0 : Nat) (x1 : Int32) (x2 : Int32) (q0 : Nat) (h : AH) : Run sc n_X10_at 4 [aD p0, aI x1, aI x2] none [aD q0] h = bO (ldI sc h (fun t => t == 0) (aD q0) (((nI 1) + ((nI 5) * x1)) + x2)) (fun z => Run sc n_X10_at 12 [aD p0, aI x1, aI x2] none [aI z] h) := by
  refine (s_go mt_X10_at dX10_at_4 rfl).trans ?_
  refine (s_go mt_X10_at dX10_at_5 rfl).trans ?_
  refine (s_go mt_X10_at dX10_at_6 rfl).trans ?_
  refine (s_go mt_X10_at dX10_at_7 rfl).trans ?_
  refine (s_go mt_X10_at dX10_at_8 rfl).trans ?_
  refine (s_go mt_X10_at dX10_at_9 rfl).trans ?_
  refine (s_go mt_X10_at dX10_at_10 rfl).trans ?_
  exact q_iaload mt_X10_at dX10_at_11
theorem e_X10_at_12 (sc : SC) (p0 : Nat) (x1 : Int32) (x2 : Int32) (y0 : Int32) (h : AH) : Run sc n_X10_at 12 [aD p0, aI x1, aI x2] none [aI y0] h = some (.inl (some (aI y0)), h) := by
  exact q_ret (c := (some (aI y0), h)) mt_X10_at dX10_at_12 rfl
/-! BranchSlotFillerModel.isSlot(I)Z -/
theorem e_X10_isSlot_0 (sc : SC) (p0 : Nat) (x1 : Int32) (h : AH) : Run sc n_X10_isSlot 0 [aD p0, aI x1] none [] h = Run sc n_X10_isSlot (if x1 ≤ 0 then 22 else 4) [aD p0, aI x1] none [] h := by
  refine (s_go mt_X10_isSlot dX10_isSlot_0 rfl).trans ?_
  exact q_if mt_X10_isSlot dX10_isSlot_1 (fun _ _ _ _ => rfl) rfl
theorem e_X10_isSlot_4 (sc : SC) (p0 : Nat) (x1 : Int32) (h : AH) : Run sc n_X10_isSlot 4 [aD p0, aI x1] none [] h = bI (rOK sc h (aD p0) 12 = true) (bC (Call sc n_X10_at [aD p0, aI (x1 - (nI 1)), aI (nI 0)] h) (fun v z => Run sc n_X10_isSlot 12 [aD p0, aI x1] none (v.toList ++ []) z) (fun E z => some (.inr E, z))) := by
  refine (s_go mt_X10_isSlot dX10_isSlot_4 rfl).trans ?_
  refine (s_go mt_X10_isSlot dX10_isSlot_5 rfl).trans ?_
  refine (s_go mt_X10_isSlot dX10_isSlot_6 rfl).trans ?_
  refine (s_go mt_X10_isSlot dX10_isSlot_7 rfl).trans ?_
  refine (s_go mt_X10_isSlot dX10_isSlot_8 rfl).trans ?_
  exact q_cV mt_X10_isSlot dX10_isSlot_9 rfl mt_X10_at rfl rfl rfl
theorem e_X10_isSlot_18 (sc : SC) (p0 : Nat) (x1 : Int32) (h : AH) : Run sc n_X10_isSlot 18 [aD p0, aI x1] none [] h = Run sc n_X10_isSlot 23 [aD p0, aI x1] none [aI (nI 1)] h := by
  refine (s_go mt_X10_isSlot dX10_isSlot_18 rfl).trans ?_
  refine (s_go mt_X10_isSlot dX10_isSlot_19 rfl).trans ?_
  exact rfl
theorem e_X10_isSlot_22 (sc : SC) (p0 : Nat) (x1 : Int32) (h : AH) : Run sc n_X10_isSlot 22 [aD p0, aI x1] none [] h = Run sc n_X10_isSlot 23 [aD p0, aI x1] none [aI (nI 0)] h := by
  refine (s_go mt_X10_isSlot dX10_isSlot_22 rfl).trans ?_
  exact rfl
theorem e_X10_isSlot_23 (sc : SC) (p0 : Nat) (x1 : Int32) (y0 : Int32) (h : AH) : Run sc n_X10_isSlot 23 [aD p0, aI x1] none [aI y0] h = bI (retK (some FieldType.boolean) y0 = true) (some (.inl (some (aI y0)), h)) := by
  exact q_iret mt_X10_isSlot dX10_isSlot_23
theorem e_X10_isSlot_12 (sc : SC) (p0 : Nat) (x1 : Int32) (y0 : Int32) (h : AH) : Run sc n_X10_isSlot 12 [aD p0, aI x1] none [aI y0] h = bC (Call sc n_X10_isBranch [aI y0] h) (fun v z => Run sc n_X10_isSlot 15 [aD p0, aI x1] none (v.toList ++ []) z) (fun E z => some (.inr E, z)) := by
  exact q_cS mt_X10_isSlot dX10_isSlot_12 rfl mt_X10_isBranch rfl rfl
theorem e_X10_isSlot_15 (sc : SC) (p0 : Nat) (x1 : Int32) (y0 : Int32) (h : AH) : Run sc n_X10_isSlot 15 [aD p0, aI x1] none [aI y0] h = Run sc n_X10_isSlot (if y0 = 0 then 22 else 18) [aD p0, aI x1] none [] h := by
  exact q_if mt_X10_isSlot dX10_isSlot_15 (fun _ _ _ _ => rfl) rfl
/-! BranchSlotFillerModel.targeted(I)I -/
theorem e_X10_targeted_0 (sc : SC) (p0 : Nat) (x1 : Int32) (v2 : AV) (v3 : AV) (h : AH) : Run sc n_X10_targeted 0 [aD p0, aI x1, v2, v3] none [] h = Run sc n_X10_targeted 4 [aD p0, aI x1, aI (nI 0), aI (nI 0)] none [] h := by
  refine (s_go mt_X10_targeted dX10_targeted_0 rfl).trans ?_
  refine (s_go mt_X10_targeted dX10_targeted_1 rfl).trans ?_
  refine (s_go mt_X10_targeted dX10_targeted_2 rfl).trans ?_
  refine (s_go mt_X10_targeted dX10_targeted_3 rfl).trans ?_
  exact rfl
theorem e_X10_targeted_4 (sc : SC) (p0 : Nat) (x1 : Int32) (x2 : Int32) (x3 : Int32) (h : AH) : Run sc n_X10_targeted 4 [aD p0, aI x1, aI x2, aI x3] none [] h = bI (rOK sc h (aD p0) 12 = true) (bC (Call sc n_X10_entryMany [aD p0] h) (fun v z => Run sc n_X10_targeted 9 [aD p0, aI x1, aI x2, aI x3] none (v.toList ++ [aI x3]) z) (fun E z => some (.inr E, z))) := by
  refine (s_go mt_X10_targeted dX10_targeted_4 rfl).trans ?_
  refine (s_go mt_X10_targeted dX10_targeted_5 rfl).trans ?_
  exact q_cV mt_X10_targeted dX10_targeted_6 rfl mt_X10_entryMany rfl rfl rfl
theorem e_X10_targeted_12 (sc : SC) (p0 : Nat) (x1 : Int32) (x2 : Int32) (x3 : Int32) (h : AH) : Run sc n_X10_targeted 12 [aD p0, aI x1, aI x2, aI x3] none [] h = bI (rOK sc h (aD p0) 12 = true) (bC (Call sc n_X10_at [aD p0, aI x3, aI (nI 0)] h) (fun v z => Run sc n_X10_targeted 19 [aD p0, aI x1, aI x2, aI x3] none (v.toList ++ [aI x2]) z) (fun E z => some (.inr E, z))) := by
  refine (s_go mt_X10_targeted dX10_targeted_12 rfl).trans ?_
  refine (s_go mt_X10_targeted dX10_targeted_13 rfl).trans ?_
  refine (s_go mt_X10_targeted dX10_targeted_14 rfl).trans ?_
  refine (s_go mt_X10_targeted dX10_targeted_15 rfl).trans ?_
  exact q_cV mt_X10_targeted dX10_targeted_16 rfl mt_X10_at rfl rfl rfl
theorem e_X10_targeted_25 (sc : SC) (p0 : Nat) (x1 : Int32) (x2 : Int32) (x3 : Int32) (y0 : Int32) (h : AH) : Run sc n_X10_targeted 25 [aD p0, aI x1, aI x2, aI x3] none [aI y0] h = bI (rOK sc h (aD p0) 12 = true) (bC (Call sc n_X10_at [aD p0, aI x3, aI (nI 3)] h) (fun v z => Run sc n_X10_targeted 31 [aD p0, aI x1, aI x2, aI x3] none (v.toList ++ [aI y0]) z) (fun E z => some (.inr E, z))) := by
  refine (s_go mt_X10_targeted dX10_targeted_25 rfl).trans ?_
  refine (s_go mt_X10_targeted dX10_targeted_26 rfl).trans ?_
  refine (s_go mt_X10_targeted dX10_targeted_27 rfl).trans ?_
  exact q_cV mt_X10_targeted dX10_targeted_28 rfl mt_X10_at rfl rfl rfl
theorem e_X10_targeted_35 (sc : SC) (p0 : Nat) (x1 : Int32) (x2 : Int32) (x3 : Int32) (y0 : Int32) (h : AH) : Run sc n_X10_targeted 35 [aD p0, aI x1, aI x2, aI x3] none [aI y0] h = Run sc n_X10_targeted 40 [aD p0, aI x1, aI x2, aI x3] none [aI (nI 1), aI y0] h := by
  refine (s_go mt_X10_targeted dX10_targeted_35 rfl).trans ?_
  refine (s_go mt_X10_targeted dX10_targeted_36 rfl).trans ?_
  exact rfl
theorem e_X10_targeted_39 (sc : SC) (p0 : Nat) (x1 : Int32) (x2 : Int32) (x3 : Int32) (y0 : Int32) (h : AH) : Run sc n_X10_targeted 39 [aD p0, aI x1, aI x2, aI x3] none [aI y0] h = Run sc n_X10_targeted 40 [aD p0, aI x1, aI x2, aI x3] none [aI (nI 0), aI y0] h := by
  refine (s_go mt_X10_targeted dX10_targeted_39 rfl).trans ?_
  exact rfl
theorem e_X10_targeted_40 (sc : SC) (p0 : Nat) (x1 : Int32) (x2 : Int32) (x3 : Int32) (y0 : Int32) (y1 : Int32) (h : AH) : Run sc n_X10_targeted 40 [aD p0, aI x1, aI x2, aI x3] none [aI y1, aI y0] h = Run sc n_X10_targeted 4 [aD p0, aI x1, aI (y0 + y1), aI (x3 + nI 1)] none [] h := by
  refine (s_go mt_X10_targeted dX10_targeted_40 rfl).trans ?_
  refine (s_go mt_X10_targeted dX10_targeted_41 rfl).trans ?_
  refine (s_go mt_X10_targeted dX10_targeted_42 rfl).trans ?_
  refine (s_go mt_X10_targeted dX10_targeted_45 rfl).trans ?_
  exact rfl
theorem e_X10_targeted_48 (sc : SC) (p0 : Nat) (x1 : Int32) (x2 : Int32) (x3 : Int32) (h : AH) : Run sc n_X10_targeted 48 [aD p0, aI x1, aI x2, aI x3] none [] h = some (.inl (some (aI x2)), h) := by
  refine (s_go mt_X10_targeted dX10_targeted_48 rfl).trans ?_
  exact q_ret (c := (some (aI x2), h)) mt_X10_targeted dX10_targeted_49 rfl
theorem e_X10_targeted_9 (sc : SC) (p0 : Nat) (x1 : Int32) (x2 : Int32) (x3 : Int32) (y0 : Int32) (y1 : Int32) (h : AH) : Run sc n_X10_targeted 9 [aD p0, aI x1, aI x2, aI x3] none [aI y1, aI y0] h = Run sc n_X10_targeted (if y1 ≤ y0 then 48 else 12) [aD p0, aI x1, aI x2, aI x3] none [] h := by
  exact q_icmp mt_X10_targeted dX10_targeted_9 (fun _ _ _ _ => rfl) rfl
theorem e_X10_targeted_19 (sc : SC) (p0 : Nat) (x1 : Int32) (x2 : Int32) (x3 : Int32) (y0 : Int32) (y1 : Int32) (h : AH) : Run sc n_X10_targeted 19 [aD p0, aI x1, aI x2, aI x3] none [aI y1, aI y0] h = bC (Call sc n_X10_isBranch [aI y1] h) (fun v z => Run sc n_X10_targeted 22 [aD p0, aI x1, aI x2, aI x3] none (v.toList ++ [aI y0]) z) (fun E z => some (.inr E, z)) := by
  exact q_cS mt_X10_targeted dX10_targeted_19 rfl mt_X10_isBranch rfl rfl
theorem e_X10_targeted_31 (sc : SC) (p0 : Nat) (x1 : Int32) (x2 : Int32) (x3 : Int32) (y0 : Int32) (y1 : Int32) (h : AH) : Run sc n_X10_targeted 31 [aD p0, aI x1, aI x2, aI x3] none [aI y1, aI y0] h = Run sc n_X10_targeted (if ¬ y1 = x1 then 39 else 35) [aD p0, aI x1, aI x2, aI x3] none [aI y0] h := by
  refine (s_go mt_X10_targeted dX10_targeted_31 rfl).trans ?_
  exact q_icmp mt_X10_targeted dX10_targeted_32 (fun _ _ _ _ => rfl) rfl
theorem e_X10_targeted_22 (sc : SC) (p0 : Nat) (x1 : Int32) (x2 : Int32) (x3 : Int32) (y0 : Int32) (y1 : Int32) (h : AH) : Run sc n_X10_targeted 22 [aD p0, aI x1, aI x2, aI x3] none [aI y1, aI y0] h = Run sc n_X10_targeted (if y1 = 0 then 39 else 25) [aD p0, aI x1, aI x2, aI x3] none [aI y0] h := by
  exact q_if mt_X10_targeted dX10_targeted_22 (fun _ _ _ _ => rfl) rfl
/-! BranchSlotFillerModel.entry(II)I -/
theorem e_X10_entry_0 (sc : SC) (p0 : Nat) (x1 : Int32) (x2 : Int32) (h : AH) : Run sc n_X10_entry 0 [aD p0, aI x1, aI x2] none [] h = bI (rOK sc h (aD p0) 12 = true) (bC (Call sc n_X10_isEntry [aD p0, aI x1] h) (fun v z => Run sc n_X10_entry 6 [aD p0, aI x1, aI x2] none (v.toList ++ [aD p0]) z) (fun E z => some (.inr E, z))) := by
  refine (s_go mt_X10_entry dX10_entry_0 rfl).trans ?_
  refine (s_go mt_X10_entry dX10_entry_1 rfl).trans ?_
  refine (s_go mt_X10_entry dX10_entry_2 rfl).trans ?_
  exact q_cV mt_X10_entry dX10_entry_3 rfl mt_X10_isEntry rfl rfl rfl
theorem e_X10_entry_9 (sc : SC) (p0 : Nat) (x1 : Int32) (x2 : Int32) (q0 : Nat) (h : AH) : Run sc n_X10_entry 9 [aD p0, aI x1, aI x2] none [aD q0] h = Run sc n_X10_entry 28 [aD p0, aI x1, aI x2] none [aI (nI 1), aD q0] h := by
  refine (s_go mt_X10_entry dX10_entry_9 rfl).trans ?_
  refine (s_go mt_X10_entry dX10_entry_10 rfl).trans ?_
  exact rfl
theorem e_X10_entry_13 (sc : SC) (p0 : Nat) (x1 : Int32) (x2 : Int32) (q0 : Nat) (h : AH) : Run sc n_X10_entry 13 [aD p0, aI x1, aI x2] none [aD q0] h = bC (Call sc n_X10_isIn [aI x2, aI (nI 0), aI (nI 6)] h) (fun v z => Run sc n_X10_entry 20 [aD p0, aI x1, aI x2] none (v.toList ++ [aD q0]) z) (fun E z => some (.inr E, z)) := by
  refine (s_go mt_X10_entry dX10_entry_13 rfl).trans ?_
  refine (s_go mt_X10_entry dX10_entry_14 rfl).trans ?_
  refine (s_go mt_X10_entry dX10_entry_15 rfl).trans ?_
  exact q_cS mt_X10_entry dX10_entry_17 rfl mt_X10_isIn rfl rfl
theorem e_X10_entry_23 (sc : SC) (p0 : Nat) (x1 : Int32) (x2 : Int32) (q0 : Nat) (h : AH) : Run sc n_X10_entry 23 [aD p0, aI x1, aI x2] none [aD q0] h = Run sc n_X10_entry 28 [aD p0, aI x1, aI x2] none [aI (nI 2), aD q0] h := by
  refine (s_go mt_X10_entry dX10_entry_23 rfl).trans ?_
  refine (s_go mt_X10_entry dX10_entry_24 rfl).trans ?_
  exact rfl
theorem e_X10_entry_27 (sc : SC) (p0 : Nat) (x1 : Int32) (x2 : Int32) (q0 : Nat) (h : AH) : Run sc n_X10_entry 27 [aD p0, aI x1, aI x2] none [aD q0] h = Run sc n_X10_entry 28 [aD p0, aI x1, aI x2] none [aI (nI 0), aD q0] h := by
  refine (s_go mt_X10_entry dX10_entry_27 rfl).trans ?_
  exact rfl
theorem e_X10_entry_28 (sc : SC) (p0 : Nat) (x1 : Int32) (x2 : Int32) (q0 : Nat) (y1 : Int32) (h : AH) : Run sc n_X10_entry 28 [aD p0, aI x1, aI x2] none [aI y1, aD q0] h = bO (putF h q0 12 0 0 (aI y1)) (fun z => Run sc n_X10_entry 31 [aD p0, aI x1, aI x2] none [] z) := by
  exact q_putfield mt_X10_entry dX10_entry_28 rfl rfl rfl rfl
theorem e_X10_entry_38 (sc : SC) (p0 : Nat) (x1 : Int32) (x2 : Int32) (h : AH) : Run sc n_X10_entry 38 [aD p0, aI x1, aI x2] none [] h = some (.inl (some (aI (nI 0))), h) := by
  refine (s_go mt_X10_entry dX10_entry_38 rfl).trans ?_
  exact q_ret (c := (some (aI (nI 0)), h)) mt_X10_entry dX10_entry_39 rfl
theorem e_X10_entry_40 (sc : SC) (p0 : Nat) (x1 : Int32) (x2 : Int32) (h : AH) : Run sc n_X10_entry 40 [aD p0, aI x1, aI x2] none [] h = Run sc n_X10_entry (if (nI 4) ≤ x2 then 54 else 45) [aD p0, aI x1, aI x2] none [] h := by
  refine (s_go mt_X10_entry dX10_entry_40 rfl).trans ?_
  refine (s_go mt_X10_entry dX10_entry_41 rfl).trans ?_
  exact q_icmp mt_X10_entry dX10_entry_42 (fun _ _ _ _ => rfl) rfl
theorem e_X10_entry_45 (sc : SC) (p0 : Nat) (x1 : Int32) (x2 : Int32) (h : AH) : Run sc n_X10_entry 45 [aD p0, aI x1, aI x2] none [] h = bI (rOK sc h (aD p0) 12 = true) (bC (Call sc n_X10_at [aD p0, aI x1, aI x2] h) (fun v z => Run sc n_X10_entry 51 [aD p0, aI x1, aI x2] none (v.toList ++ []) z) (fun E z => some (.inr E, z))) := by
  refine (s_go mt_X10_entry dX10_entry_45 rfl).trans ?_
  refine (s_go mt_X10_entry dX10_entry_46 rfl).trans ?_
  refine (s_go mt_X10_entry dX10_entry_47 rfl).trans ?_
  exact q_cV mt_X10_entry dX10_entry_48 rfl mt_X10_at rfl rfl rfl
theorem e_X10_entry_54 (sc : SC) (p0 : Nat) (x1 : Int32) (x2 : Int32) (h : AH) : Run sc n_X10_entry 54 [aD p0, aI x1, aI x2] none [] h = Run sc n_X10_entry (if ¬ x2 = (nI 4) then 75 else 59) [aD p0, aI x1, aI x2] none [] h := by
  refine (s_go mt_X10_entry dX10_entry_54 rfl).trans ?_
  refine (s_go mt_X10_entry dX10_entry_55 rfl).trans ?_
  exact q_icmp mt_X10_entry dX10_entry_56 (fun _ _ _ _ => rfl) rfl
theorem e_X10_entry_59 (sc : SC) (p0 : Nat) (x1 : Int32) (x2 : Int32) (h : AH) : Run sc n_X10_entry 59 [aD p0, aI x1, aI x2] none [] h = bI (rOK sc h (aD p0) 12 = true) (bC (Call sc n_X10_isSlot [aD p0, aI x1] h) (fun v z => Run sc n_X10_entry 64 [aD p0, aI x1, aI x2] none (v.toList ++ []) z) (fun E z => some (.inr E, z))) := by
  refine (s_go mt_X10_entry dX10_entry_59 rfl).trans ?_
  refine (s_go mt_X10_entry dX10_entry_60 rfl).trans ?_
  exact q_cV mt_X10_entry dX10_entry_61 rfl mt_X10_isSlot rfl rfl rfl
theorem e_X10_entry_67 (sc : SC) (p0 : Nat) (x1 : Int32) (x2 : Int32) (h : AH) : Run sc n_X10_entry 67 [aD p0, aI x1, aI x2] none [] h = Run sc n_X10_entry 94 [aD p0, aI x1, aI x2] none [aI (nI 1)] h := by
  refine (s_go mt_X10_entry dX10_entry_67 rfl).trans ?_
  refine (s_go mt_X10_entry dX10_entry_68 rfl).trans ?_
  exact rfl
theorem e_X10_entry_71 (sc : SC) (p0 : Nat) (x1 : Int32) (x2 : Int32) (h : AH) : Run sc n_X10_entry 71 [aD p0, aI x1, aI x2] none [] h = Run sc n_X10_entry 94 [aD p0, aI x1, aI x2] none [aI (nI 0)] h := by
  refine (s_go mt_X10_entry dX10_entry_71 rfl).trans ?_
  refine (s_go mt_X10_entry dX10_entry_72 rfl).trans ?_
  exact rfl
theorem e_X10_entry_75 (sc : SC) (p0 : Nat) (x1 : Int32) (x2 : Int32) (h : AH) : Run sc n_X10_entry 75 [aD p0, aI x1, aI x2] none [] h = Run sc n_X10_entry (if ¬ x2 = (nI 5) then 89 else 80) [aD p0, aI x1, aI x2] none [] h := by
  refine (s_go mt_X10_entry dX10_entry_75 rfl).trans ?_
  refine (s_go mt_X10_entry dX10_entry_76 rfl).trans ?_
  exact q_icmp mt_X10_entry dX10_entry_77 (fun _ _ _ _ => rfl) rfl
theorem e_X10_entry_80 (sc : SC) (p0 : Nat) (x1 : Int32) (x2 : Int32) (h : AH) : Run sc n_X10_entry 80 [aD p0, aI x1, aI x2] none [] h = bI (rOK sc h (aD p0) 12 = true) (bC (Call sc n_X10_at [aD p0, aI x1, aI (nI 4)] h) (fun v z => Run sc n_X10_entry 86 [aD p0, aI x1, aI x2] none (v.toList ++ []) z) (fun E z => some (.inr E, z))) := by
  refine (s_go mt_X10_entry dX10_entry_80 rfl).trans ?_
  refine (s_go mt_X10_entry dX10_entry_81 rfl).trans ?_
  refine (s_go mt_X10_entry dX10_entry_82 rfl).trans ?_
  exact q_cV mt_X10_entry dX10_entry_83 rfl mt_X10_at rfl rfl rfl
theorem e_X10_entry_89 (sc : SC) (p0 : Nat) (x1 : Int32) (x2 : Int32) (h : AH) : Run sc n_X10_entry 89 [aD p0, aI x1, aI x2] none [] h = bI (rOK sc h (aD p0) 12 = true) (bC (Call sc n_X10_targeted [aD p0, aI x1] h) (fun v z => Run sc n_X10_entry 94 [aD p0, aI x1, aI x2] none (v.toList ++ []) z) (fun E z => some (.inr E, z))) := by
  refine (s_go mt_X10_entry dX10_entry_89 rfl).trans ?_
  refine (s_go mt_X10_entry dX10_entry_90 rfl).trans ?_
  exact q_cV mt_X10_entry dX10_entry_91 rfl mt_X10_targeted rfl rfl rfl
theorem e_X10_entry_94 (sc : SC) (p0 : Nat) (x1 : Int32) (x2 : Int32) (y0 : Int32) (h : AH) : Run sc n_X10_entry 94 [aD p0, aI x1, aI x2] none [aI y0] h = some (.inl (some (aI y0)), h) := by
  exact q_ret (c := (some (aI y0), h)) mt_X10_entry dX10_entry_94 rfl
theorem e_X10_entry_6 (sc : SC) (p0 : Nat) (x1 : Int32) (x2 : Int32) (q0 : Nat) (y1 : Int32) (h : AH) : Run sc n_X10_entry 6 [aD p0, aI x1, aI x2] none [aI y1, aD q0] h = Run sc n_X10_entry (if ¬ y1 = 0 then 13 else 9) [aD p0, aI x1, aI x2] none [aD q0] h := by
  exact q_if mt_X10_entry dX10_entry_6 (fun _ _ _ _ => rfl) rfl
theorem e_X10_entry_20 (sc : SC) (p0 : Nat) (x1 : Int32) (x2 : Int32) (q0 : Nat) (y1 : Int32) (h : AH) : Run sc n_X10_entry 20 [aD p0, aI x1, aI x2] none [aI y1, aD q0] h = Run sc n_X10_entry (if ¬ y1 = 0 then 27 else 23) [aD p0, aI x1, aI x2] none [aD q0] h := by
  exact q_if mt_X10_entry dX10_entry_20 (fun _ _ _ _ => rfl) rfl
theorem e_X10_entry_31 (sc : SC) (p0 : Nat) (x1 : Int32) (x2 : Int32) (h : AH) : Run sc n_X10_entry 31 [aD p0, aI x1, aI x2] none [] h = bF (getF sc h (aD p0) 12 0) (fun z => Run sc n_X10_entry 35 [aD p0, aI x1, aI x2] none [z] h) := by
  refine (s_go mt_X10_entry dX10_entry_31 rfl).trans ?_
  exact q_getfield mt_X10_entry dX10_entry_32 rfl
theorem e_X10_entry_51 (sc : SC) (p0 : Nat) (x1 : Int32) (x2 : Int32) (y0 : Int32) (h : AH) : Run sc n_X10_entry 51 [aD p0, aI x1, aI x2] none [aI y0] h = Run sc n_X10_entry 94 [aD p0, aI x1, aI x2] none [aI y0] h := by
  refine (s_go mt_X10_entry dX10_entry_51 rfl).trans ?_
  exact rfl
theorem e_X10_entry_64 (sc : SC) (p0 : Nat) (x1 : Int32) (x2 : Int32) (y0 : Int32) (h : AH) : Run sc n_X10_entry 64 [aD p0, aI x1, aI x2] none [aI y0] h = Run sc n_X10_entry (if y0 = 0 then 71 else 67) [aD p0, aI x1, aI x2] none [] h := by
  exact q_if mt_X10_entry dX10_entry_64 (fun _ _ _ _ => rfl) rfl
theorem e_X10_entry_86 (sc : SC) (p0 : Nat) (x1 : Int32) (x2 : Int32) (y0 : Int32) (h : AH) : Run sc n_X10_entry 86 [aD p0, aI x1, aI x2] none [aI y0] h = Run sc n_X10_entry 94 [aD p0, aI x1, aI x2] none [aI y0] h := by
  refine (s_go mt_X10_entry dX10_entry_86 rfl).trans ?_
  exact rfl
theorem e_X10_entry_35 (sc : SC) (p0 : Nat) (x1 : Int32) (x2 : Int32) (y0 : Int32) (h : AH) : Run sc n_X10_entry 35 [aD p0, aI x1, aI x2] none [aI y0] h = Run sc n_X10_entry (if y0 = 0 then 40 else 38) [aD p0, aI x1, aI x2] none [] h := by
  exact q_if mt_X10_entry dX10_entry_35 (fun _ _ _ _ => rfl) rfl
/-! BranchSlotFillerModel.meet(I)V -/
theorem e_X10_meet_0 (sc : SC) (p0 : Nat) (x1 : Int32) (h : AH) : Run sc n_X10_meet 0 [aD p0, aI x1] none [] h = bF (getF sc h (aD p0) 12 13) (fun z => Run sc n_X10_meet 4 [aD p0, aI x1] none [z] h) := by
  refine (s_go mt_X10_meet dX10_meet_0 rfl).trans ?_
  exact q_getfield mt_X10_meet dX10_meet_1 rfl
theorem e_X10_meet_4 (sc : SC) (p0 : Nat) (x1 : Int32) (q0 : Nat) (h : AH) : Run sc n_X10_meet 4 [aD p0, aI x1] none [aD q0] h = bO (stI h (fun t => t == 2 || t == 3) q0 x1 (nI 1)) (fun z => Run sc n_X10_meet 7 [aD p0, aI x1] none [] z) := by
  refine (s_go mt_X10_meet dX10_meet_4 rfl).trans ?_
  refine (s_go mt_X10_meet dX10_meet_5 rfl).trans ?_
  exact q_bastore mt_X10_meet dX10_meet_6
theorem e_X10_meet_7 (sc : SC) (p0 : Nat) (x1 : Int32) (h : AH) : Run sc n_X10_meet 7 [aD p0, aI x1] none [] h = some (.inl none, h) := by
  exact q_ret (c := (none, h)) mt_X10_meet dX10_meet_7 rfl
/-! BranchSlotFillerModel.findReached()V -/
theorem e_X10_findReached_0 (sc : SC) (p0 : Nat) (v1 : AV) (v2 : AV) (v3 : AV) (h : AH) : Run sc n_X10_findReached 0 [aD p0, v1, v2, v3] none [] h = Run sc n_X10_findReached 2 [aD p0, aI (nI 0), v2, v3] none [] h := by
  refine (s_go mt_X10_findReached dX10_findReached_0 rfl).trans ?_
  refine (s_go mt_X10_findReached dX10_findReached_1 rfl).trans ?_
  exact rfl
theorem e_X10_findReached_2 (sc : SC) (p0 : Nat) (x1 : Int32) (v2 : AV) (v3 : AV) (h : AH) : Run sc n_X10_findReached 2 [aD p0, aI x1, v2, v3] none [] h = Run sc n_X10_findReached (if (nI 61) < x1 then 29 else 8) [aD p0, aI x1, v2, v3] none [] h := by
  refine (s_go mt_X10_findReached dX10_findReached_2 rfl).trans ?_
  refine (s_go mt_X10_findReached dX10_findReached_3 rfl).trans ?_
  exact q_icmp mt_X10_findReached dX10_findReached_5 (fun _ _ _ _ => rfl) rfl
theorem e_X10_findReached_8 (sc : SC) (p0 : Nat) (x1 : Int32) (v2 : AV) (v3 : AV) (h : AH) : Run sc n_X10_findReached 8 [aD p0, aI x1, v2, v3] none [] h = bF (getF sc h (aD p0) 12 13) (fun z => Run sc n_X10_findReached 12 [aD p0, aI x1, v2, v3] none [z] h) := by
  refine (s_go mt_X10_findReached dX10_findReached_8 rfl).trans ?_
  exact q_getfield mt_X10_findReached dX10_findReached_9 rfl
theorem e_X10_findReached_17 (sc : SC) (p0 : Nat) (x1 : Int32) (v2 : AV) (v3 : AV) (q0 : Nat) (y1 : Int32) (h : AH) : Run sc n_X10_findReached 17 [aD p0, aI x1, v2, v3] none [aI y1, aD q0] h = Run sc n_X10_findReached 22 [aD p0, aI x1, v2, v3] none [aI (nI 1), aI y1, aD q0] h := by
  refine (s_go mt_X10_findReached dX10_findReached_17 rfl).trans ?_
  refine (s_go mt_X10_findReached dX10_findReached_18 rfl).trans ?_
  exact rfl
theorem e_X10_findReached_21 (sc : SC) (p0 : Nat) (x1 : Int32) (v2 : AV) (v3 : AV) (q0 : Nat) (y1 : Int32) (h : AH) : Run sc n_X10_findReached 21 [aD p0, aI x1, v2, v3] none [aI y1, aD q0] h = Run sc n_X10_findReached 22 [aD p0, aI x1, v2, v3] none [aI (nI 0), aI y1, aD q0] h := by
  refine (s_go mt_X10_findReached dX10_findReached_21 rfl).trans ?_
  exact rfl
theorem e_X10_findReached_22 (sc : SC) (p0 : Nat) (x1 : Int32) (v2 : AV) (v3 : AV) (q0 : Nat) (y1 : Int32) (y2 : Int32) (h : AH) : Run sc n_X10_findReached 22 [aD p0, aI x1, v2, v3] none [aI y2, aI y1, aD q0] h = bO (stI h (fun t => t == 2 || t == 3) q0 y1 y2) (fun z => Run sc n_X10_findReached 23 [aD p0, aI x1, v2, v3] none [] z) := by
  exact q_bastore mt_X10_findReached dX10_findReached_22
theorem e_X10_findReached_29 (sc : SC) (p0 : Nat) (x1 : Int32) (v2 : AV) (v3 : AV) (h : AH) : Run sc n_X10_findReached 29 [aD p0, aI x1, v2, v3] none [] h = Run sc n_X10_findReached 31 [aD p0, aI (nI 0), v2, v3] none [] h := by
  refine (s_go mt_X10_findReached dX10_findReached_29 rfl).trans ?_
  refine (s_go mt_X10_findReached dX10_findReached_30 rfl).trans ?_
  exact rfl
theorem e_X10_findReached_31 (sc : SC) (p0 : Nat) (x1 : Int32) (v2 : AV) (v3 : AV) (h : AH) : Run sc n_X10_findReached 31 [aD p0, aI x1, v2, v3] none [] h = bI (rOK sc h (aD p0) 12 = true) (bC (Call sc n_X10_entryMany [aD p0] h) (fun v z => Run sc n_X10_findReached 36 [aD p0, aI x1, v2, v3] none (v.toList ++ [aI x1]) z) (fun E z => some (.inr E, z))) := by
  refine (s_go mt_X10_findReached dX10_findReached_31 rfl).trans ?_
  refine (s_go mt_X10_findReached dX10_findReached_32 rfl).trans ?_
  exact q_cV mt_X10_findReached dX10_findReached_33 rfl mt_X10_entryMany rfl rfl rfl
theorem e_X10_findReached_39 (sc : SC) (p0 : Nat) (x1 : Int32) (v2 : AV) (v3 : AV) (h : AH) : Run sc n_X10_findReached 39 [aD p0, aI x1, v2, v3] none [] h = Run sc n_X10_findReached 41 [aD p0, aI x1, aI (nI 0), v3] none [] h := by
  refine (s_go mt_X10_findReached dX10_findReached_39 rfl).trans ?_
  refine (s_go mt_X10_findReached dX10_findReached_40 rfl).trans ?_
  exact rfl
theorem e_X10_findReached_41 (sc : SC) (p0 : Nat) (x1 : Int32) (x2 : Int32) (v3 : AV) (h : AH) : Run sc n_X10_findReached 41 [aD p0, aI x1, aI x2, v3] none [] h = bI (rOK sc h (aD p0) 12 = true) (bC (Call sc n_X10_entryMany [aD p0] h) (fun v z => Run sc n_X10_findReached 46 [aD p0, aI x1, aI x2, v3] none (v.toList ++ [aI x2]) z) (fun E z => some (.inr E, z))) := by
  refine (s_go mt_X10_findReached dX10_findReached_41 rfl).trans ?_
  refine (s_go mt_X10_findReached dX10_findReached_42 rfl).trans ?_
  exact q_cV mt_X10_findReached dX10_findReached_43 rfl mt_X10_entryMany rfl rfl rfl
theorem e_X10_findReached_49 (sc : SC) (p0 : Nat) (x1 : Int32) (x2 : Int32) (v3 : AV) (h : AH) : Run sc n_X10_findReached 49 [aD p0, aI x1, aI x2, v3] none [] h = bI (rOK sc h (aD p0) 12 = true) (bC (Call sc n_X10_at [aD p0, aI x2, aI (nI 0)] h) (fun v z => Run sc n_X10_findReached 55 [aD p0, aI x1, aI x2, v3] none (v.toList ++ []) z) (fun E z => some (.inr E, z))) := by
  refine (s_go mt_X10_findReached dX10_findReached_49 rfl).trans ?_
  refine (s_go mt_X10_findReached dX10_findReached_50 rfl).trans ?_
  refine (s_go mt_X10_findReached dX10_findReached_51 rfl).trans ?_
  exact q_cV mt_X10_findReached dX10_findReached_52 rfl mt_X10_at rfl rfl rfl
theorem e_X10_findReached_65 (sc : SC) (p0 : Nat) (x1 : Int32) (x2 : Int32) (x3 : Int32) (h : AH) : Run sc n_X10_findReached 65 [aD p0, aI x1, aI x2, aI x3] none [] h = bC (Call sc n_X10_isBranch [aI x3] h) (fun v z => Run sc n_X10_findReached 69 [aD p0, aI x1, aI x2, aI x3] none (v.toList ++ []) z) (fun E z => some (.inr E, z)) := by
  refine (s_go mt_X10_findReached dX10_findReached_65 rfl).trans ?_
  exact q_cS mt_X10_findReached dX10_findReached_66 rfl mt_X10_isBranch rfl rfl
theorem e_X10_findReached_72 (sc : SC) (p0 : Nat) (x1 : Int32) (x2 : Int32) (x3 : Int32) (h : AH) : Run sc n_X10_findReached 72 [aD p0, aI x1, aI x2, aI x3] none [] h = bI (rOK sc h (aD p0) 12 = true) (bC (Call sc n_X10_at [aD p0, aI x2, aI (nI 3)] h) (fun v z => Run sc n_X10_findReached 79 [aD p0, aI x1, aI x2, aI x3] none (v.toList ++ [aD p0]) z) (fun E z => some (.inr E, z))) := by
  refine (s_go mt_X10_findReached dX10_findReached_72 rfl).trans ?_
  refine (s_go mt_X10_findReached dX10_findReached_73 rfl).trans ?_
  refine (s_go mt_X10_findReached dX10_findReached_74 rfl).trans ?_
  refine (s_go mt_X10_findReached dX10_findReached_75 rfl).trans ?_
  exact q_cV mt_X10_findReached dX10_findReached_76 rfl mt_X10_at rfl rfl rfl
theorem e_X10_findReached_82 (sc : SC) (p0 : Nat) (x1 : Int32) (x2 : Int32) (x3 : Int32) (h : AH) : Run sc n_X10_findReached 82 [aD p0, aI x1, aI x2, aI x3] none [] h = bF (getF sc h (aD p0) 12 13) (fun z => Run sc n_X10_findReached 86 [aD p0, aI x1, aI x2, aI x3] none [z] h) := by
  refine (s_go mt_X10_findReached dX10_findReached_82 rfl).trans ?_
  exact q_getfield mt_X10_findReached dX10_findReached_83 rfl
theorem e_X10_findReached_91 (sc : SC) (p0 : Nat) (x1 : Int32) (x2 : Int32) (x3 : Int32) (h : AH) : Run sc n_X10_findReached 91 [aD p0, aI x1, aI x2, aI x3] none [] h = Run sc n_X10_findReached (if x3 = (nI 10) then 123 else 97) [aD p0, aI x1, aI x2, aI x3] none [] h := by
  refine (s_go mt_X10_findReached dX10_findReached_91 rfl).trans ?_
  refine (s_go mt_X10_findReached dX10_findReached_92 rfl).trans ?_
  exact q_icmp mt_X10_findReached dX10_findReached_94 (fun _ _ _ _ => rfl) rfl
theorem e_X10_findReached_97 (sc : SC) (p0 : Nat) (x1 : Int32) (x2 : Int32) (x3 : Int32) (h : AH) : Run sc n_X10_findReached 97 [aD p0, aI x1, aI x2, aI x3] none [] h = Run sc n_X10_findReached (if x3 = (nI 11) then 123 else 103) [aD p0, aI x1, aI x2, aI x3] none [] h := by
  refine (s_go mt_X10_findReached dX10_findReached_97 rfl).trans ?_
  refine (s_go mt_X10_findReached dX10_findReached_98 rfl).trans ?_
  exact q_icmp mt_X10_findReached dX10_findReached_100 (fun _ _ _ _ => rfl) rfl
theorem e_X10_findReached_103 (sc : SC) (p0 : Nat) (x1 : Int32) (x2 : Int32) (x3 : Int32) (h : AH) : Run sc n_X10_findReached 103 [aD p0, aI x1, aI x2, aI x3] none [] h = bC (Call sc n_X10_isBranch [aI x3] h) (fun v z => Run sc n_X10_findReached 108 [aD p0, aI x1, aI x2, aI x3] none (v.toList ++ [aD p0]) z) (fun E z => some (.inr E, z)) := by
  refine (s_go mt_X10_findReached dX10_findReached_103 rfl).trans ?_
  refine (s_go mt_X10_findReached dX10_findReached_104 rfl).trans ?_
  exact q_cS mt_X10_findReached dX10_findReached_105 rfl mt_X10_isBranch rfl rfl
theorem e_X10_findReached_111 (sc : SC) (p0 : Nat) (x1 : Int32) (x2 : Int32) (x3 : Int32) (q0 : Nat) (h : AH) : Run sc n_X10_findReached 111 [aD p0, aI x1, aI x2, aI x3] none [aD q0] h = Run sc n_X10_findReached 120 [aD p0, aI x1, aI x2, aI x3] none [aI (x2 + (nI 2)), aD q0] h := by
  refine (s_go mt_X10_findReached dX10_findReached_111 rfl).trans ?_
  refine (s_go mt_X10_findReached dX10_findReached_112 rfl).trans ?_
  refine (s_go mt_X10_findReached dX10_findReached_113 rfl).trans ?_
  refine (s_go mt_X10_findReached dX10_findReached_114 rfl).trans ?_
  exact rfl
theorem e_X10_findReached_117 (sc : SC) (p0 : Nat) (x1 : Int32) (x2 : Int32) (x3 : Int32) (q0 : Nat) (h : AH) : Run sc n_X10_findReached 117 [aD p0, aI x1, aI x2, aI x3] none [aD q0] h = Run sc n_X10_findReached 120 [aD p0, aI x1, aI x2, aI x3] none [aI (x2 + (nI 1)), aD q0] h := by
  refine (s_go mt_X10_findReached dX10_findReached_117 rfl).trans ?_
  refine (s_go mt_X10_findReached dX10_findReached_118 rfl).trans ?_
  refine (s_go mt_X10_findReached dX10_findReached_119 rfl).trans ?_
  exact rfl
theorem e_X10_findReached_120 (sc : SC) (p0 : Nat) (x1 : Int32) (x2 : Int32) (x3 : Int32) (q0 : Nat) (y1 : Int32) (h : AH) : Run sc n_X10_findReached 120 [aD p0, aI x1, aI x2, aI x3] none [aI y1, aD q0] h = bI (rOK sc h (aD q0) 12 = true) (bC (Call sc n_X10_meet [aD q0, aI y1] h) (fun v z => Run sc n_X10_findReached 123 [aD p0, aI x1, aI x2, aI x3] none (v.toList ++ []) z) (fun E z => some (.inr E, z))) := by
  exact q_cV mt_X10_findReached dX10_findReached_120 rfl mt_X10_meet rfl rfl rfl
theorem e_X10_findReached_123 (sc : SC) (p0 : Nat) (x1 : Int32) (x2 : Int32) (x3 : Int32) (h : AH) : Run sc n_X10_findReached 123 [aD p0, aI x1, aI x2, aI x3] none [] h = Run sc n_X10_findReached 41 [aD p0, aI x1, aI (x2 + nI 1), aI x3] none [] h := by
  refine (s_go mt_X10_findReached dX10_findReached_123 rfl).trans ?_
  refine (s_go mt_X10_findReached dX10_findReached_126 rfl).trans ?_
  exact rfl
theorem e_X10_findReached_129 (sc : SC) (p0 : Nat) (x1 : Int32) (x2 : Int32) (v3 : AV) (h : AH) : Run sc n_X10_findReached 129 [aD p0, aI x1, aI x2, v3] none [] h = Run sc n_X10_findReached 31 [aD p0, aI (x1 + nI 1), aI x2, v3] none [] h := by
  refine (s_go mt_X10_findReached dX10_findReached_129 rfl).trans ?_
  refine (s_go mt_X10_findReached dX10_findReached_132 rfl).trans ?_
  exact rfl
theorem e_X10_findReached_135 (sc : SC) (p0 : Nat) (x1 : Int32) (v2 : AV) (v3 : AV) (h : AH) : Run sc n_X10_findReached 135 [aD p0, aI x1, v2, v3] none [] h = some (.inl none, h) := by
  exact q_ret (c := (none, h)) mt_X10_findReached dX10_findReached_135 rfl
theorem e_X10_findReached_12 (sc : SC) (p0 : Nat) (x1 : Int32) (v2 : AV) (v3 : AV) (q0 : Nat) (h : AH) : Run sc n_X10_findReached 12 [aD p0, aI x1, v2, v3] none [aD q0] h = Run sc n_X10_findReached (if ¬ x1 = 0 then 21 else 17) [aD p0, aI x1, v2, v3] none [aI x1, aD q0] h := by
  refine (s_go mt_X10_findReached dX10_findReached_12 rfl).trans ?_
  refine (s_go mt_X10_findReached dX10_findReached_13 rfl).trans ?_
  exact q_if mt_X10_findReached dX10_findReached_14 (fun _ _ _ _ => rfl) rfl
theorem e_X10_findReached_23 (sc : SC) (p0 : Nat) (x1 : Int32) (v2 : AV) (v3 : AV) (h : AH) : Run sc n_X10_findReached 23 [aD p0, aI x1, v2, v3] none [] h = Run sc n_X10_findReached 2 [aD p0, aI (x1 + nI 1), v2, v3] none [] h := by
  refine (s_go mt_X10_findReached dX10_findReached_23 rfl).trans ?_
  refine (s_go mt_X10_findReached dX10_findReached_26 rfl).trans ?_
  exact rfl
theorem e_X10_findReached_36 (sc : SC) (p0 : Nat) (x1 : Int32) (v2 : AV) (v3 : AV) (y0 : Int32) (y1 : Int32) (h : AH) : Run sc n_X10_findReached 36 [aD p0, aI x1, v2, v3] none [aI y1, aI y0] h = Run sc n_X10_findReached (if y1 ≤ y0 then 135 else 39) [aD p0, aI x1, v2, v3] none [] h := by
  exact q_icmp mt_X10_findReached dX10_findReached_36 (fun _ _ _ _ => rfl) rfl
theorem e_X10_findReached_46 (sc : SC) (p0 : Nat) (x1 : Int32) (x2 : Int32) (v3 : AV) (y0 : Int32) (y1 : Int32) (h : AH) : Run sc n_X10_findReached 46 [aD p0, aI x1, aI x2, v3] none [aI y1, aI y0] h = Run sc n_X10_findReached (if y1 ≤ y0 then 129 else 49) [aD p0, aI x1, aI x2, v3] none [] h := by
  exact q_icmp mt_X10_findReached dX10_findReached_46 (fun _ _ _ _ => rfl) rfl
theorem e_X10_findReached_55 (sc : SC) (p0 : Nat) (x1 : Int32) (x2 : Int32) (v3 : AV) (y0 : Int32) (h : AH) : Run sc n_X10_findReached 55 [aD p0, aI x1, aI x2, v3] none [aI y0] h = bF (getF sc h (aD p0) 12 13) (fun z => Run sc n_X10_findReached 60 [aD p0, aI x1, aI x2, aI y0] none [z] h) := by
  refine (s_go mt_X10_findReached dX10_findReached_55 rfl).trans ?_
  refine (s_go mt_X10_findReached dX10_findReached_56 rfl).trans ?_
  exact q_getfield mt_X10_findReached dX10_findReached_57 rfl
theorem e_X10_findReached_69 (sc : SC) (p0 : Nat) (x1 : Int32) (x2 : Int32) (x3 : Int32) (y0 : Int32) (h : AH) : Run sc n_X10_findReached 69 [aD p0, aI x1, aI x2, aI x3] none [aI y0] h = Run sc n_X10_findReached (if y0 = 0 then 82 else 72) [aD p0, aI x1, aI x2, aI x3] none [] h := by
  exact q_if mt_X10_findReached dX10_findReached_69 (fun _ _ _ _ => rfl) rfl
theorem e_X10_findReached_79 (sc : SC) (p0 : Nat) (x1 : Int32) (x2 : Int32) (x3 : Int32) (q0 : Nat) (y1 : Int32) (h : AH) : Run sc n_X10_findReached 79 [aD p0, aI x1, aI x2, aI x3] none [aI y1, aD q0] h = bI (rOK sc h (aD q0) 12 = true) (bC (Call sc n_X10_meet [aD q0, aI y1] h) (fun v z => Run sc n_X10_findReached 82 [aD p0, aI x1, aI x2, aI x3] none (v.toList ++ []) z) (fun E z => some (.inr E, z))) := by
  exact q_cV mt_X10_findReached dX10_findReached_79 rfl mt_X10_meet rfl rfl rfl
theorem e_X10_findReached_86 (sc : SC) (p0 : Nat) (x1 : Int32) (x2 : Int32) (x3 : Int32) (q0 : Nat) (h : AH) : Run sc n_X10_findReached 86 [aD p0, aI x1, aI x2, aI x3] none [aD q0] h = bO (ldI sc h (fun t => t == 2 || t == 3) (aD q0) x2) (fun z => Run sc n_X10_findReached 88 [aD p0, aI x1, aI x2, aI x3] none [aI z] h) := by
  refine (s_go mt_X10_findReached dX10_findReached_86 rfl).trans ?_
  exact q_baload mt_X10_findReached dX10_findReached_87
theorem e_X10_findReached_108 (sc : SC) (p0 : Nat) (x1 : Int32) (x2 : Int32) (x3 : Int32) (q0 : Nat) (y1 : Int32) (h : AH) : Run sc n_X10_findReached 108 [aD p0, aI x1, aI x2, aI x3] none [aI y1, aD q0] h = Run sc n_X10_findReached (if y1 = 0 then 117 else 111) [aD p0, aI x1, aI x2, aI x3] none [aD q0] h := by
  exact q_if mt_X10_findReached dX10_findReached_108 (fun _ _ _ _ => rfl) rfl
theorem e_X10_findReached_60 (sc : SC) (p0 : Nat) (x1 : Int32) (x2 : Int32) (x3 : Int32) (q0 : Nat) (h : AH) : Run sc n_X10_findReached 60 [aD p0, aI x1, aI x2, aI x3] none [aD q0] h = bO (ldI sc h (fun t => t == 2 || t == 3) (aD q0) x2) (fun z => Run sc n_X10_findReached 62 [aD p0, aI x1, aI x2, aI x3] none [aI z] h) := by
  refine (s_go mt_X10_findReached dX10_findReached_60 rfl).trans ?_
  exact q_baload mt_X10_findReached dX10_findReached_61
theorem e_X10_findReached_88 (sc : SC) (p0 : Nat) (x1 : Int32) (x2 : Int32) (x3 : Int32) (y0 : Int32) (h : AH) : Run sc n_X10_findReached 88 [aD p0, aI x1, aI x2, aI x3] none [aI y0] h = Run sc n_X10_findReached (if y0 = 0 then 123 else 91) [aD p0, aI x1, aI x2, aI x3] none [] h := by
  exact q_if mt_X10_findReached dX10_findReached_88 (fun _ _ _ _ => rfl) rfl
theorem e_X10_findReached_62 (sc : SC) (p0 : Nat) (x1 : Int32) (x2 : Int32) (x3 : Int32) (y0 : Int32) (h : AH) : Run sc n_X10_findReached 62 [aD p0, aI x1, aI x2, aI x3] none [aI y0] h = Run sc n_X10_findReached (if y0 = 0 then 82 else 65) [aD p0, aI x1, aI x2, aI x3] none [] h := by
  exact q_if mt_X10_findReached dX10_findReached_62 (fun _ _ _ _ => rfl) rfl
/-! BranchSlotFillerModel.count(I)I -/
theorem e_X10_count_0 (sc : SC) (p0 : Nat) (x1 : Int32) (v2 : AV) (v3 : AV) (v4 : AV) (v5 : AV) (h : AH) : Run sc n_X10_count 0 [aD p0, aI x1, v2, v3, v4, v5] none [] h = bO (putF h p0 12 0 0 (aI (nI 0))) (fun z => Run sc n_X10_count 5 [aD p0, aI x1, v2, v3, v4, v5] none [] z) := by
  refine (s_go mt_X10_count dX10_count_0 rfl).trans ?_
  refine (s_go mt_X10_count dX10_count_1 rfl).trans ?_
  exact q_putfield mt_X10_count dX10_count_2 rfl rfl rfl rfl
theorem e_X10_count_14 (sc : SC) (p0 : Nat) (x1 : Int32) (v2 : AV) (v3 : AV) (v4 : AV) (v5 : AV) (h : AH) : Run sc n_X10_count 14 [aD p0, aI x1, v2, v3, v4, v5] none [] h = bI (rOK sc h (aD p0) 12 = true) (bC (Call sc n_X10_fail [aD p0, aI (nI 1)] h) (fun v z => Run sc n_X10_count 19 [aD p0, aI x1, v2, v3, v4, v5] none (v.toList ++ []) z) (fun E z => some (.inr E, z))) := by
  refine (s_go mt_X10_count dX10_count_14 rfl).trans ?_
  refine (s_go mt_X10_count dX10_count_15 rfl).trans ?_
  exact q_cV mt_X10_count dX10_count_16 rfl mt_X10_fail rfl rfl rfl
theorem e_X10_count_20 (sc : SC) (p0 : Nat) (x1 : Int32) (v2 : AV) (v3 : AV) (v4 : AV) (v5 : AV) (h : AH) : Run sc n_X10_count 20 [aD p0, aI x1, v2, v3, v4, v5] none [] h = bI (rOK sc h (aD p0) 12 = true) (bC (Call sc n_X10_findReached [aD p0] h) (fun v z => Run sc n_X10_count 24 [aD p0, aI x1, v2, v3, v4, v5] none (v.toList ++ []) z) (fun E z => some (.inr E, z))) := by
  refine (s_go mt_X10_count dX10_count_20 rfl).trans ?_
  exact q_cV mt_X10_count dX10_count_21 rfl mt_X10_findReached rfl rfl rfl
theorem e_X10_count_28 (sc : SC) (p0 : Nat) (x1 : Int32) (x2 : Int32) (x3 : Int32) (v4 : AV) (v5 : AV) (h : AH) : Run sc n_X10_count 28 [aD p0, aI x1, aI x2, aI x3, v4, v5] none [] h = bI (rOK sc h (aD p0) 12 = true) (bC (Call sc n_X10_entryMany [aD p0] h) (fun v z => Run sc n_X10_count 33 [aD p0, aI x1, aI x2, aI x3, v4, v5] none (v.toList ++ [aI x3]) z) (fun E z => some (.inr E, z))) := by
  refine (s_go mt_X10_count dX10_count_28 rfl).trans ?_
  refine (s_go mt_X10_count dX10_count_29 rfl).trans ?_
  exact q_cV mt_X10_count dX10_count_30 rfl mt_X10_entryMany rfl rfl rfl
theorem e_X10_count_36 (sc : SC) (p0 : Nat) (x1 : Int32) (x2 : Int32) (x3 : Int32) (v4 : AV) (v5 : AV) (h : AH) : Run sc n_X10_count 36 [aD p0, aI x1, aI x2, aI x3, v4, v5] none [] h = bI (rOK sc h (aD p0) 12 = true) (bC (Call sc n_X10_at [aD p0, aI x3, aI (nI 0)] h) (fun v z => Run sc n_X10_count 42 [aD p0, aI x1, aI x2, aI x3, v4, v5] none (v.toList ++ []) z) (fun E z => some (.inr E, z))) := by
  refine (s_go mt_X10_count dX10_count_36 rfl).trans ?_
  refine (s_go mt_X10_count dX10_count_37 rfl).trans ?_
  refine (s_go mt_X10_count dX10_count_38 rfl).trans ?_
  exact q_cV mt_X10_count dX10_count_39 rfl mt_X10_at rfl rfl rfl
theorem e_X10_count_48 (sc : SC) (p0 : Nat) (x1 : Int32) (x2 : Int32) (x3 : Int32) (x4 : Int32) (v5 : AV) (h : AH) : Run sc n_X10_count 48 [aD p0, aI x1, aI x2, aI x3, aI x4, v5] none [] h = bC (Call sc n_X10_isBranch [aI x4] h) (fun v z => Run sc n_X10_count 53 [aD p0, aI x1, aI x2, aI x3, aI x4, v5] none (v.toList ++ []) z) (fun E z => some (.inr E, z)) := by
  refine (s_go mt_X10_count dX10_count_48 rfl).trans ?_
  exact q_cS mt_X10_count dX10_count_50 rfl mt_X10_isBranch rfl rfl
theorem e_X10_count_56 (sc : SC) (p0 : Nat) (x1 : Int32) (x2 : Int32) (x3 : Int32) (x4 : Int32) (v5 : AV) (h : AH) : Run sc n_X10_count 56 [aD p0, aI x1, aI x2, aI x3, aI x4, v5] none [] h = Run sc n_X10_count (if ¬ x1 = (nI 1) then 82 else 61) [aD p0, aI x1, aI x2, aI x3, aI x4, v5] none [] h := by
  refine (s_go mt_X10_count dX10_count_56 rfl).trans ?_
  refine (s_go mt_X10_count dX10_count_57 rfl).trans ?_
  exact q_icmp mt_X10_count dX10_count_58 (fun _ _ _ _ => rfl) rfl
theorem e_X10_count_61 (sc : SC) (p0 : Nat) (x1 : Int32) (x2 : Int32) (x3 : Int32) (x4 : Int32) (v5 : AV) (h : AH) : Run sc n_X10_count 61 [aD p0, aI x1, aI x2, aI x3, aI x4, v5] none [] h = bI (rOK sc h (aD p0) 12 = true) (bC (Call sc n_X10_isSlot [aD p0, aI x3] h) (fun v z => Run sc n_X10_count 66 [aD p0, aI x1, aI x2, aI x3, aI x4, v5] none (v.toList ++ []) z) (fun E z => some (.inr E, z))) := by
  refine (s_go mt_X10_count dX10_count_61 rfl).trans ?_
  refine (s_go mt_X10_count dX10_count_62 rfl).trans ?_
  exact q_cV mt_X10_count dX10_count_63 rfl mt_X10_isSlot rfl rfl rfl
theorem e_X10_count_69 (sc : SC) (p0 : Nat) (x1 : Int32) (x2 : Int32) (x3 : Int32) (x4 : Int32) (v5 : AV) (h : AH) : Run sc n_X10_count 69 [aD p0, aI x1, aI x2, aI x3, aI x4, v5] none [] h = Run sc n_X10_count (if ¬ x4 = 0 then 78 else 74) [aD p0, aI x1, aI x2, aI x3, aI x4, v5] none [] h := by
  refine (s_go mt_X10_count dX10_count_69 rfl).trans ?_
  exact q_if mt_X10_count dX10_count_71 (fun _ _ _ _ => rfl) rfl
theorem e_X10_count_74 (sc : SC) (p0 : Nat) (x1 : Int32) (x2 : Int32) (x3 : Int32) (x4 : Int32) (v5 : AV) (h : AH) : Run sc n_X10_count 74 [aD p0, aI x1, aI x2, aI x3, aI x4, v5] none [] h = Run sc n_X10_count 145 [aD p0, aI x1, aI x2, aI x3, aI x4, v5] none [aI (nI 1)] h := by
  refine (s_go mt_X10_count dX10_count_74 rfl).trans ?_
  refine (s_go mt_X10_count dX10_count_75 rfl).trans ?_
  exact rfl
theorem e_X10_count_78 (sc : SC) (p0 : Nat) (x1 : Int32) (x2 : Int32) (x3 : Int32) (x4 : Int32) (v5 : AV) (h : AH) : Run sc n_X10_count 78 [aD p0, aI x1, aI x2, aI x3, aI x4, v5] none [] h = Run sc n_X10_count 145 [aD p0, aI x1, aI x2, aI x3, aI x4, v5] none [aI (nI 0)] h := by
  refine (s_go mt_X10_count dX10_count_78 rfl).trans ?_
  refine (s_go mt_X10_count dX10_count_79 rfl).trans ?_
  exact rfl
theorem e_X10_count_82 (sc : SC) (p0 : Nat) (x1 : Int32) (x2 : Int32) (x3 : Int32) (x4 : Int32) (v5 : AV) (h : AH) : Run sc n_X10_count 82 [aD p0, aI x1, aI x2, aI x3, aI x4, v5] none [] h = Run sc n_X10_count (if ¬ x1 = (nI 2) then 105 else 87) [aD p0, aI x1, aI x2, aI x3, aI x4, v5] none [] h := by
  refine (s_go mt_X10_count dX10_count_82 rfl).trans ?_
  refine (s_go mt_X10_count dX10_count_83 rfl).trans ?_
  exact q_icmp mt_X10_count dX10_count_84 (fun _ _ _ _ => rfl) rfl
theorem e_X10_count_87 (sc : SC) (p0 : Nat) (x1 : Int32) (x2 : Int32) (x3 : Int32) (x4 : Int32) (v5 : AV) (h : AH) : Run sc n_X10_count 87 [aD p0, aI x1, aI x2, aI x3, aI x4, v5] none [] h = bI (rOK sc h (aD p0) 12 = true) (bC (Call sc n_X10_at [aD p0, aI x3, aI (nI 4)] h) (fun v z => Run sc n_X10_count 93 [aD p0, aI x1, aI x2, aI x3, aI x4, v5] none (v.toList ++ []) z) (fun E z => some (.inr E, z))) := by
  refine (s_go mt_X10_count dX10_count_87 rfl).trans ?_
  refine (s_go mt_X10_count dX10_count_88 rfl).trans ?_
  refine (s_go mt_X10_count dX10_count_89 rfl).trans ?_
  exact q_cV mt_X10_count dX10_count_90 rfl mt_X10_at rfl rfl rfl
theorem e_X10_count_97 (sc : SC) (p0 : Nat) (x1 : Int32) (x2 : Int32) (x3 : Int32) (x4 : Int32) (v5 : AV) (h : AH) : Run sc n_X10_count 97 [aD p0, aI x1, aI x2, aI x3, aI x4, v5] none [] h = Run sc n_X10_count 145 [aD p0, aI x1, aI x2, aI x3, aI x4, v5] none [aI (nI 1)] h := by
  refine (s_go mt_X10_count dX10_count_97 rfl).trans ?_
  refine (s_go mt_X10_count dX10_count_98 rfl).trans ?_
  exact rfl
theorem e_X10_count_101 (sc : SC) (p0 : Nat) (x1 : Int32) (x2 : Int32) (x3 : Int32) (x4 : Int32) (v5 : AV) (h : AH) : Run sc n_X10_count 101 [aD p0, aI x1, aI x2, aI x3, aI x4, v5] none [] h = Run sc n_X10_count 145 [aD p0, aI x1, aI x2, aI x3, aI x4, v5] none [aI (nI 0)] h := by
  refine (s_go mt_X10_count dX10_count_101 rfl).trans ?_
  refine (s_go mt_X10_count dX10_count_102 rfl).trans ?_
  exact rfl
theorem e_X10_count_105 (sc : SC) (p0 : Nat) (x1 : Int32) (x2 : Int32) (x3 : Int32) (x4 : Int32) (v5 : AV) (h : AH) : Run sc n_X10_count 105 [aD p0, aI x1, aI x2, aI x3, aI x4, v5] none [] h = Run sc n_X10_count (if ¬ x1 = (nI 3) then 123 else 110) [aD p0, aI x1, aI x2, aI x3, aI x4, v5] none [] h := by
  refine (s_go mt_X10_count dX10_count_105 rfl).trans ?_
  refine (s_go mt_X10_count dX10_count_106 rfl).trans ?_
  exact q_icmp mt_X10_count dX10_count_107 (fun _ _ _ _ => rfl) rfl
theorem e_X10_count_110 (sc : SC) (p0 : Nat) (x1 : Int32) (x2 : Int32) (x3 : Int32) (x4 : Int32) (v5 : AV) (h : AH) : Run sc n_X10_count 110 [aD p0, aI x1, aI x2, aI x3, aI x4, v5] none [] h = Run sc n_X10_count (if ¬ x4 = 0 then 119 else 115) [aD p0, aI x1, aI x2, aI x3, aI x4, v5] none [] h := by
  refine (s_go mt_X10_count dX10_count_110 rfl).trans ?_
  exact q_if mt_X10_count dX10_count_112 (fun _ _ _ _ => rfl) rfl
theorem e_X10_count_115 (sc : SC) (p0 : Nat) (x1 : Int32) (x2 : Int32) (x3 : Int32) (x4 : Int32) (v5 : AV) (h : AH) : Run sc n_X10_count 115 [aD p0, aI x1, aI x2, aI x3, aI x4, v5] none [] h = Run sc n_X10_count 145 [aD p0, aI x1, aI x2, aI x3, aI x4, v5] none [aI (nI 1)] h := by
  refine (s_go mt_X10_count dX10_count_115 rfl).trans ?_
  refine (s_go mt_X10_count dX10_count_116 rfl).trans ?_
  exact rfl
theorem e_X10_count_119 (sc : SC) (p0 : Nat) (x1 : Int32) (x2 : Int32) (x3 : Int32) (x4 : Int32) (v5 : AV) (h : AH) : Run sc n_X10_count 119 [aD p0, aI x1, aI x2, aI x3, aI x4, v5] none [] h = Run sc n_X10_count 145 [aD p0, aI x1, aI x2, aI x3, aI x4, v5] none [aI (nI 0)] h := by
  refine (s_go mt_X10_count dX10_count_119 rfl).trans ?_
  refine (s_go mt_X10_count dX10_count_120 rfl).trans ?_
  exact rfl
theorem e_X10_count_123 (sc : SC) (p0 : Nat) (x1 : Int32) (x2 : Int32) (x3 : Int32) (x4 : Int32) (v5 : AV) (h : AH) : Run sc n_X10_count 123 [aD p0, aI x1, aI x2, aI x3, aI x4, v5] none [] h = bI (rOK sc h (aD p0) 12 = true) (bC (Call sc n_X10_isSlot [aD p0, aI x3] h) (fun v z => Run sc n_X10_count 128 [aD p0, aI x1, aI x2, aI x3, aI x4, v5] none (v.toList ++ []) z) (fun E z => some (.inr E, z))) := by
  refine (s_go mt_X10_count dX10_count_123 rfl).trans ?_
  refine (s_go mt_X10_count dX10_count_124 rfl).trans ?_
  exact q_cV mt_X10_count dX10_count_125 rfl mt_X10_isSlot rfl rfl rfl
theorem e_X10_count_131 (sc : SC) (p0 : Nat) (x1 : Int32) (x2 : Int32) (x3 : Int32) (x4 : Int32) (v5 : AV) (h : AH) : Run sc n_X10_count 131 [aD p0, aI x1, aI x2, aI x3, aI x4, v5] none [] h = bF (getF sc h (aD p0) 12 13) (fun z => Run sc n_X10_count 135 [aD p0, aI x1, aI x2, aI x3, aI x4, v5] none [z] h) := by
  refine (s_go mt_X10_count dX10_count_131 rfl).trans ?_
  exact q_getfield mt_X10_count dX10_count_132 rfl
theorem e_X10_count_140 (sc : SC) (p0 : Nat) (x1 : Int32) (x2 : Int32) (x3 : Int32) (x4 : Int32) (v5 : AV) (h : AH) : Run sc n_X10_count 140 [aD p0, aI x1, aI x2, aI x3, aI x4, v5] none [] h = Run sc n_X10_count 145 [aD p0, aI x1, aI x2, aI x3, aI x4, v5] none [aI (nI 1)] h := by
  refine (s_go mt_X10_count dX10_count_140 rfl).trans ?_
  refine (s_go mt_X10_count dX10_count_141 rfl).trans ?_
  exact rfl
theorem e_X10_count_144 (sc : SC) (p0 : Nat) (x1 : Int32) (x2 : Int32) (x3 : Int32) (x4 : Int32) (v5 : AV) (h : AH) : Run sc n_X10_count 144 [aD p0, aI x1, aI x2, aI x3, aI x4, v5] none [] h = Run sc n_X10_count 145 [aD p0, aI x1, aI x2, aI x3, aI x4, v5] none [aI (nI 0)] h := by
  refine (s_go mt_X10_count dX10_count_144 rfl).trans ?_
  exact rfl
theorem e_X10_count_145 (sc : SC) (p0 : Nat) (x1 : Int32) (x2 : Int32) (x3 : Int32) (x4 : Int32) (v5 : AV) (y0 : Int32) (h : AH) : Run sc n_X10_count 145 [aD p0, aI x1, aI x2, aI x3, aI x4, v5] none [aI y0] h = Run sc n_X10_count (if y0 = 0 then 157 else 153) [aD p0, aI x1, aI x2, aI x3, aI x4, aI y0] none [aI x2] h := by
  refine (s_go mt_X10_count dX10_count_145 rfl).trans ?_
  refine (s_go mt_X10_count dX10_count_147 rfl).trans ?_
  refine (s_go mt_X10_count dX10_count_148 rfl).trans ?_
  exact q_if mt_X10_count dX10_count_150 (fun _ _ _ _ => rfl) rfl
theorem e_X10_count_153 (sc : SC) (p0 : Nat) (x1 : Int32) (x2 : Int32) (x3 : Int32) (x4 : Int32) (x5 : Int32) (y0 : Int32) (h : AH) : Run sc n_X10_count 153 [aD p0, aI x1, aI x2, aI x3, aI x4, aI x5] none [aI y0] h = Run sc n_X10_count 158 [aD p0, aI x1, aI x2, aI x3, aI x4, aI x5] none [aI (nI 1), aI y0] h := by
  refine (s_go mt_X10_count dX10_count_153 rfl).trans ?_
  refine (s_go mt_X10_count dX10_count_154 rfl).trans ?_
  exact rfl
theorem e_X10_count_157 (sc : SC) (p0 : Nat) (x1 : Int32) (x2 : Int32) (x3 : Int32) (x4 : Int32) (x5 : Int32) (y0 : Int32) (h : AH) : Run sc n_X10_count 157 [aD p0, aI x1, aI x2, aI x3, aI x4, aI x5] none [aI y0] h = Run sc n_X10_count 158 [aD p0, aI x1, aI x2, aI x3, aI x4, aI x5] none [aI (nI 0), aI y0] h := by
  refine (s_go mt_X10_count dX10_count_157 rfl).trans ?_
  exact rfl
theorem e_X10_count_158 (sc : SC) (p0 : Nat) (x1 : Int32) (x2 : Int32) (x3 : Int32) (x4 : Int32) (x5 : Int32) (y0 : Int32) (y1 : Int32) (h : AH) : Run sc n_X10_count 158 [aD p0, aI x1, aI x2, aI x3, aI x4, aI x5] none [aI y1, aI y0] h = Run sc n_X10_count 28 [aD p0, aI x1, aI (y0 + y1), aI (x3 + nI 1), aI x4, aI x5] none [] h := by
  refine (s_go mt_X10_count dX10_count_158 rfl).trans ?_
  refine (s_go mt_X10_count dX10_count_159 rfl).trans ?_
  refine (s_go mt_X10_count dX10_count_160 rfl).trans ?_
  refine (s_go mt_X10_count dX10_count_163 rfl).trans ?_
  exact rfl
theorem e_X10_count_166 (sc : SC) (p0 : Nat) (x1 : Int32) (x2 : Int32) (x3 : Int32) (v4 : AV) (v5 : AV) (h : AH) : Run sc n_X10_count 166 [aD p0, aI x1, aI x2, aI x3, v4, v5] none [] h = some (.inl (some (aI x2)), h) := by
  refine (s_go mt_X10_count dX10_count_166 rfl).trans ?_
  exact q_ret (c := (some (aI x2), h)) mt_X10_count dX10_count_167 rfl
theorem e_X10_count_5 (sc : SC) (p0 : Nat) (x1 : Int32) (v2 : AV) (v3 : AV) (v4 : AV) (v5 : AV) (h : AH) : Run sc n_X10_count 5 [aD p0, aI x1, v2, v3, v4, v5] none [] h = bC (Call sc n_X10_isIn [aI x1, aI (nI 0), aI (nI 4)] h) (fun v z => Run sc n_X10_count 11 [aD p0, aI x1, v2, v3, v4, v5] none (v.toList ++ []) z) (fun E z => some (.inr E, z)) := by
  refine (s_go mt_X10_count dX10_count_5 rfl).trans ?_
  refine (s_go mt_X10_count dX10_count_6 rfl).trans ?_
  refine (s_go mt_X10_count dX10_count_7 rfl).trans ?_
  exact q_cS mt_X10_count dX10_count_8 rfl mt_X10_isIn rfl rfl
theorem e_X10_count_19 (sc : SC) (p0 : Nat) (x1 : Int32) (v2 : AV) (v3 : AV) (v4 : AV) (v5 : AV) (y0 : Int32) (h : AH) : Run sc n_X10_count 19 [aD p0, aI x1, v2, v3, v4, v5] none [aI y0] h = some (.inl (some (aI y0)), h) := by
  exact q_ret (c := (some (aI y0), h)) mt_X10_count dX10_count_19 rfl
theorem e_X10_count_24 (sc : SC) (p0 : Nat) (x1 : Int32) (v2 : AV) (v3 : AV) (v4 : AV) (v5 : AV) (h : AH) : Run sc n_X10_count 24 [aD p0, aI x1, v2, v3, v4, v5] none [] h = Run sc n_X10_count 28 [aD p0, aI x1, aI (nI 0), aI (nI 0), v4, v5] none [] h := by
  refine (s_go mt_X10_count dX10_count_24 rfl).trans ?_
  refine (s_go mt_X10_count dX10_count_25 rfl).trans ?_
  refine (s_go mt_X10_count dX10_count_26 rfl).trans ?_
  refine (s_go mt_X10_count dX10_count_27 rfl).trans ?_
  exact rfl
theorem e_X10_count_33 (sc : SC) (p0 : Nat) (x1 : Int32) (x2 : Int32) (x3 : Int32) (v4 : AV) (v5 : AV) (y0 : Int32) (y1 : Int32) (h : AH) : Run sc n_X10_count 33 [aD p0, aI x1, aI x2, aI x3, v4, v5] none [aI y1, aI y0] h = Run sc n_X10_count (if y1 ≤ y0 then 166 else 36) [aD p0, aI x1, aI x2, aI x3, v4, v5] none [] h := by
  exact q_icmp mt_X10_count dX10_count_33 (fun _ _ _ _ => rfl) rfl
theorem e_X10_count_42 (sc : SC) (p0 : Nat) (x1 : Int32) (x2 : Int32) (x3 : Int32) (v4 : AV) (v5 : AV) (y0 : Int32) (h : AH) : Run sc n_X10_count 42 [aD p0, aI x1, aI x2, aI x3, v4, v5] none [aI y0] h = Run sc n_X10_count (if ¬ x1 = 0 then 56 else 48) [aD p0, aI x1, aI x2, aI x3, aI y0, v5] none [] h := by
  refine (s_go mt_X10_count dX10_count_42 rfl).trans ?_
  refine (s_go mt_X10_count dX10_count_44 rfl).trans ?_
  exact q_if mt_X10_count dX10_count_45 (fun _ _ _ _ => rfl) rfl
theorem e_X10_count_53 (sc : SC) (p0 : Nat) (x1 : Int32) (x2 : Int32) (x3 : Int32) (x4 : Int32) (v5 : AV) (y0 : Int32) (h : AH) : Run sc n_X10_count 53 [aD p0, aI x1, aI x2, aI x3, aI x4, v5] none [aI y0] h = Run sc n_X10_count 145 [aD p0, aI x1, aI x2, aI x3, aI x4, v5] none [aI y0] h := by
  refine (s_go mt_X10_count dX10_count_53 rfl).trans ?_
  exact rfl
theorem e_X10_count_66 (sc : SC) (p0 : Nat) (x1 : Int32) (x2 : Int32) (x3 : Int32) (x4 : Int32) (v5 : AV) (y0 : Int32) (h : AH) : Run sc n_X10_count 66 [aD p0, aI x1, aI x2, aI x3, aI x4, v5] none [aI y0] h = Run sc n_X10_count (if y0 = 0 then 78 else 69) [aD p0, aI x1, aI x2, aI x3, aI x4, v5] none [] h := by
  exact q_if mt_X10_count dX10_count_66 (fun _ _ _ _ => rfl) rfl
theorem e_X10_count_93 (sc : SC) (p0 : Nat) (x1 : Int32) (x2 : Int32) (x3 : Int32) (x4 : Int32) (v5 : AV) (y0 : Int32) (h : AH) : Run sc n_X10_count 93 [aD p0, aI x1, aI x2, aI x3, aI x4, v5] none [aI y0] h = Run sc n_X10_count (if ¬ y0 = (nI 1) then 101 else 97) [aD p0, aI x1, aI x2, aI x3, aI x4, v5] none [] h := by
  refine (s_go mt_X10_count dX10_count_93 rfl).trans ?_
  exact q_icmp mt_X10_count dX10_count_94 (fun _ _ _ _ => rfl) rfl
theorem e_X10_count_128 (sc : SC) (p0 : Nat) (x1 : Int32) (x2 : Int32) (x3 : Int32) (x4 : Int32) (v5 : AV) (y0 : Int32) (h : AH) : Run sc n_X10_count 128 [aD p0, aI x1, aI x2, aI x3, aI x4, v5] none [aI y0] h = Run sc n_X10_count (if ¬ y0 = 0 then 144 else 131) [aD p0, aI x1, aI x2, aI x3, aI x4, v5] none [] h := by
  exact q_if mt_X10_count dX10_count_128 (fun _ _ _ _ => rfl) rfl
theorem e_X10_count_135 (sc : SC) (p0 : Nat) (x1 : Int32) (x2 : Int32) (x3 : Int32) (x4 : Int32) (v5 : AV) (q0 : Nat) (h : AH) : Run sc n_X10_count 135 [aD p0, aI x1, aI x2, aI x3, aI x4, v5] none [aD q0] h = bO (ldI sc h (fun t => t == 2 || t == 3) (aD q0) x3) (fun z => Run sc n_X10_count 137 [aD p0, aI x1, aI x2, aI x3, aI x4, v5] none [aI z] h) := by
  refine (s_go mt_X10_count dX10_count_135 rfl).trans ?_
  exact q_baload mt_X10_count dX10_count_136
theorem e_X10_count_11 (sc : SC) (p0 : Nat) (x1 : Int32) (v2 : AV) (v3 : AV) (v4 : AV) (v5 : AV) (y0 : Int32) (h : AH) : Run sc n_X10_count 11 [aD p0, aI x1, v2, v3, v4, v5] none [aI y0] h = Run sc n_X10_count (if ¬ y0 = 0 then 20 else 14) [aD p0, aI x1, v2, v3, v4, v5] none [] h := by
  exact q_if mt_X10_count dX10_count_11 (fun _ _ _ _ => rfl) rfl
theorem e_X10_count_137 (sc : SC) (p0 : Nat) (x1 : Int32) (x2 : Int32) (x3 : Int32) (x4 : Int32) (v5 : AV) (y0 : Int32) (h : AH) : Run sc n_X10_count 137 [aD p0, aI x1, aI x2, aI x3, aI x4, v5] none [aI y0] h = Run sc n_X10_count (if ¬ y0 = 0 then 144 else 140) [aD p0, aI x1, aI x2, aI x3, aI x4, v5] none [] h := by
  exact q_if mt_X10_count dX10_count_137 (fun _ _ _ _ => rfl) rfl
/-! BranchSlotFillerModel.reads(I)I -/
theorem e_X10_reads_0 (sc : SC) (p0 : Nat) (x1 : Int32) (v2 : AV) (v3 : AV) (h : AH) : Run sc n_X10_reads 0 [aD p0, aI x1, v2, v3] none [] h = bI (rOK sc h (aD p0) 12 = true) (bC (Call sc n_X10_at [aD p0, aI x1, aI (nI 1)] h) (fun v z => Run sc n_X10_reads 7 [aD p0, aI x1, v2, v3] none (v.toList ++ [aI (nI 1)]) z) (fun E z => some (.inr E, z))) := by
  refine (s_go mt_X10_reads dX10_reads_0 rfl).trans ?_
  refine (s_go mt_X10_reads dX10_reads_1 rfl).trans ?_
  refine (s_go mt_X10_reads dX10_reads_2 rfl).trans ?_
  refine (s_go mt_X10_reads dX10_reads_3 rfl).trans ?_
  exact q_cV mt_X10_reads dX10_reads_4 rfl mt_X10_at rfl rfl rfl
theorem e_X10_reads_72 (sc : SC) (p0 : Nat) (x1 : Int32) (x2 : Int32) (x3 : Int32) (h : AH) : Run sc n_X10_reads 72 [aD p0, aI x1, aI x2, aI x3] none [] h = some (.inl (some (aI x3)), h) := by
  refine (s_go mt_X10_reads dX10_reads_72 rfl).trans ?_
  exact q_ret (c := (some (aI x3), h)) mt_X10_reads dX10_reads_73 rfl
theorem e_X10_reads_74 (sc : SC) (p0 : Nat) (x1 : Int32) (x2 : Int32) (x3 : Int32) (h : AH) : Run sc n_X10_reads 74 [aD p0, aI x1, aI x2, aI x3] none [] h = bI (rOK sc h (aD p0) 12 = true) (bC (Call sc n_X10_at [aD p0, aI x1, aI (nI 3)] h) (fun v z => Run sc n_X10_reads 82 [aD p0, aI x1, aI x2, aI x3] none (v.toList ++ [aI (nI 1), aI x3]) z) (fun E z => some (.inr E, z))) := by
  refine (s_go mt_X10_reads dX10_reads_74 rfl).trans ?_
  refine (s_go mt_X10_reads dX10_reads_75 rfl).trans ?_
  refine (s_go mt_X10_reads dX10_reads_76 rfl).trans ?_
  refine (s_go mt_X10_reads dX10_reads_77 rfl).trans ?_
  refine (s_go mt_X10_reads dX10_reads_78 rfl).trans ?_
  exact q_cV mt_X10_reads dX10_reads_79 rfl mt_X10_at rfl rfl rfl
theorem e_X10_reads_85 (sc : SC) (p0 : Nat) (x1 : Int32) (x2 : Int32) (x3 : Int32) (h : AH) : Run sc n_X10_reads 85 [aD p0, aI x1, aI x2, aI x3] none [] h = some (.inl (some (aI (x2 ||| x3))), h) := by
  refine (s_go mt_X10_reads dX10_reads_85 rfl).trans ?_
  refine (s_go mt_X10_reads dX10_reads_86 rfl).trans ?_
  refine (s_go mt_X10_reads dX10_reads_87 rfl).trans ?_
  exact q_ret (c := (some (aI (x2 ||| x3)), h)) mt_X10_reads dX10_reads_88 rfl
theorem e_X10_reads_89 (sc : SC) (p0 : Nat) (x1 : Int32) (x2 : Int32) (x3 : Int32) (h : AH) : Run sc n_X10_reads 89 [aD p0, aI x1, aI x2, aI x3] none [] h = some (.inl (some (aI x2)), h) := by
  refine (s_go mt_X10_reads dX10_reads_89 rfl).trans ?_
  exact q_ret (c := (some (aI x2), h)) mt_X10_reads dX10_reads_90 rfl
theorem e_X10_reads_91 (sc : SC) (p0 : Nat) (x1 : Int32) (x2 : Int32) (x3 : Int32) (h : AH) : Run sc n_X10_reads 91 [aD p0, aI x1, aI x2, aI x3] none [] h = some (.inl (some (aI (nI 0))), h) := by
  refine (s_go mt_X10_reads dX10_reads_91 rfl).trans ?_
  exact q_ret (c := (some (aI (nI 0)), h)) mt_X10_reads dX10_reads_92 rfl
theorem e_X10_reads_7 (sc : SC) (p0 : Nat) (x1 : Int32) (v2 : AV) (v3 : AV) (y0 : Int32) (y1 : Int32) (h : AH) : Run sc n_X10_reads 7 [aD p0, aI x1, v2, v3] none [aI y1, aI y0] h = bI (rOK sc h (aD p0) 12 = true) (bC (Call sc n_X10_at [aD p0, aI x1, aI (nI 2)] h) (fun v z => Run sc n_X10_reads 16 [aD p0, aI x1, aI (y0 <<< (y1 &&& 31)), v3] none (v.toList ++ [aI (nI 1)]) z) (fun E z => some (.inr E, z))) := by
  refine (s_go mt_X10_reads dX10_reads_7 rfl).trans ?_
  refine (s_go mt_X10_reads dX10_reads_8 rfl).trans ?_
  refine (s_go mt_X10_reads dX10_reads_9 rfl).trans ?_
  refine (s_go mt_X10_reads dX10_reads_10 rfl).trans ?_
  refine (s_go mt_X10_reads dX10_reads_11 rfl).trans ?_
  refine (s_go mt_X10_reads dX10_reads_12 rfl).trans ?_
  exact q_cV mt_X10_reads dX10_reads_13 rfl mt_X10_at rfl rfl rfl
theorem e_X10_reads_82 (sc : SC) (p0 : Nat) (x1 : Int32) (x2 : Int32) (x3 : Int32) (y0 : Int32) (y1 : Int32) (y2 : Int32) (h : AH) : Run sc n_X10_reads 82 [aD p0, aI x1, aI x2, aI x3] none [aI y2, aI y1, aI y0] h = some (.inl (some (aI (y0 ||| (y1 <<< (y2 &&& 31))))), h) := by
  refine (s_go mt_X10_reads dX10_reads_82 rfl).trans ?_
  refine (s_go mt_X10_reads dX10_reads_83 rfl).trans ?_
  exact q_ret (c := (some (aI (y0 ||| (y1 <<< (y2 &&& 31)))), h)) mt_X10_reads dX10_reads_84 rfl
theorem e_X10_reads_16 (sc : SC) (p0 : Nat) (x1 : Int32) (x2 : Int32) (v3 : AV) (y0 : Int32) (y1 : Int32) (h : AH) : Run sc n_X10_reads 16 [aD p0, aI x1, aI x2, v3] none [aI y1, aI y0] h = bI (rOK sc h (aD p0) 12 = true) (bC (Call sc n_X10_at [aD p0, aI x1, aI (nI 0)] h) (fun v z => Run sc n_X10_reads 24 [aD p0, aI x1, aI x2, aI (y0 <<< (y1 &&& 31))] none (v.toList ++ []) z) (fun E z => some (.inr E, z))) := by
  refine (s_go mt_X10_reads dX10_reads_16 rfl).trans ?_
  refine (s_go mt_X10_reads dX10_reads_17 rfl).trans ?_
  refine (s_go mt_X10_reads dX10_reads_18 rfl).trans ?_
  refine (s_go mt_X10_reads dX10_reads_19 rfl).trans ?_
  refine (s_go mt_X10_reads dX10_reads_20 rfl).trans ?_
  exact q_cV mt_X10_reads dX10_reads_21 rfl mt_X10_at rfl rfl rfl
theorem e_X10_reads_24 (sc : SC) (p0 : Nat) (x1 : Int32) (x2 : Int32) (x3 : Int32) (y0 : Int32) (h : AH) : Run sc n_X10_reads 24 [aD p0, aI x1, aI x2, aI x3] none [aI y0] h = Run sc n_X10_reads (if (y0).toInt < 2 ∨ 9 < (y0).toInt then 91 else ([72, 74, 74, 72, 85, 89, 85, 85] : List Nat).getD ((y0).toInt - 2).toNat 0) [aD p0, aI x1, aI x2, aI x3] none [] h := by
  exact q_table (pc := 24) (T := [72, 74, 74, 72, 85, 89, 85, 85]) mt_X10_reads dX10_reads_24 rfl (by decide +kernel)
/-! BranchSlotFillerModel.writes(I)I -/
theorem e_X10_writes_0 (sc : SC) (p0 : Nat) (x1 : Int32) (h : AH) : Run sc n_X10_writes 0 [aD p0, aI x1] none [] h = bI (rOK sc h (aD p0) 12 = true) (bC (Call sc n_X10_at [aD p0, aI x1, aI (nI 0)] h) (fun v z => Run sc n_X10_writes 6 [aD p0, aI x1] none (v.toList ++ []) z) (fun E z => some (.inr E, z))) := by
  refine (s_go mt_X10_writes dX10_writes_0 rfl).trans ?_
  refine (s_go mt_X10_writes dX10_writes_1 rfl).trans ?_
  refine (s_go mt_X10_writes dX10_writes_2 rfl).trans ?_
  exact q_cV mt_X10_writes dX10_writes_3 rfl mt_X10_at rfl rfl rfl
theorem e_X10_writes_14 (sc : SC) (p0 : Nat) (x1 : Int32) (h : AH) : Run sc n_X10_writes 14 [aD p0, aI x1] none [] h = bI (rOK sc h (aD p0) 12 = true) (bC (Call sc n_X10_at [aD p0, aI x1, aI (nI 1)] h) (fun v z => Run sc n_X10_writes 21 [aD p0, aI x1] none (v.toList ++ [aI (nI 1)]) z) (fun E z => some (.inr E, z))) := by
  refine (s_go mt_X10_writes dX10_writes_14 rfl).trans ?_
  refine (s_go mt_X10_writes dX10_writes_15 rfl).trans ?_
  refine (s_go mt_X10_writes dX10_writes_16 rfl).trans ?_
  refine (s_go mt_X10_writes dX10_writes_17 rfl).trans ?_
  exact q_cV mt_X10_writes dX10_writes_18 rfl mt_X10_at rfl rfl rfl
theorem e_X10_writes_25 (sc : SC) (p0 : Nat) (x1 : Int32) (h : AH) : Run sc n_X10_writes 25 [aD p0, aI x1] none [] h = Run sc n_X10_writes 26 [aD p0, aI x1] none [aI (nI 0)] h := by
  refine (s_go mt_X10_writes dX10_writes_25 rfl).trans ?_
  exact rfl
theorem e_X10_writes_26 (sc : SC) (p0 : Nat) (x1 : Int32) (y0 : Int32) (h : AH) : Run sc n_X10_writes 26 [aD p0, aI x1] none [aI y0] h = some (.inl (some (aI y0)), h) := by
  exact q_ret (c := (some (aI y0), h)) mt_X10_writes dX10_writes_26 rfl
theorem e_X10_writes_6 (sc : SC) (p0 : Nat) (x1 : Int32) (y0 : Int32) (h : AH) : Run sc n_X10_writes 6 [aD p0, aI x1] none [aI y0] h = bC (Call sc n_X10_isIn [aI y0, aI (nI 1), aI (nI 5)] h) (fun v z => Run sc n_X10_writes 11 [aD p0, aI x1] none (v.toList ++ []) z) (fun E z => some (.inr E, z)) := by
  refine (s_go mt_X10_writes dX10_writes_6 rfl).trans ?_
  refine (s_go mt_X10_writes dX10_writes_7 rfl).trans ?_
  exact q_cS mt_X10_writes dX10_writes_8 rfl mt_X10_isIn rfl rfl
theorem e_X10_writes_21 (sc : SC) (p0 : Nat) (x1 : Int32) (y0 : Int32) (y1 : Int32) (h : AH) : Run sc n_X10_writes 21 [aD p0, aI x1] none [aI y1, aI y0] h = Run sc n_X10_writes 26 [aD p0, aI x1] none [aI (y0 <<< (y1 &&& 31))] h := by
  refine (s_go mt_X10_writes dX10_writes_21 rfl).trans ?_
  refine (s_go mt_X10_writes dX10_writes_22 rfl).trans ?_
  exact rfl
theorem e_X10_writes_11 (sc : SC) (p0 : Nat) (x1 : Int32) (y0 : Int32) (h : AH) : Run sc n_X10_writes 11 [aD p0, aI x1] none [aI y0] h = Run sc n_X10_writes (if y0 = 0 then 25 else 14) [aD p0, aI x1] none [] h := by
  exact q_if mt_X10_writes dX10_writes_11 (fun _ _ _ _ => rfl) rfl
/-! BranchSlotFillerModel.through(II)I -/
theorem e_X10_through_0 (sc : SC) (p0 : Nat) (x1 : Int32) (x2 : Int32) (h : AH) : Run sc n_X10_through 0 [aD p0, aI x1, aI x2] none [] h = bI (rOK sc h (aD p0) 12 = true) (bC (Call sc n_X10_reads [aD p0, aI x1] h) (fun v z => Run sc n_X10_through 5 [aD p0, aI x1, aI x2] none (v.toList ++ []) z) (fun E z => some (.inr E, z))) := by
  refine (s_go mt_X10_through dX10_through_0 rfl).trans ?_
  refine (s_go mt_X10_through dX10_through_1 rfl).trans ?_
  exact q_cV mt_X10_through dX10_through_2 rfl mt_X10_reads rfl rfl rfl
theorem e_X10_through_5 (sc : SC) (p0 : Nat) (x1 : Int32) (x2 : Int32) (y0 : Int32) (h : AH) : Run sc n_X10_through 5 [aD p0, aI x1, aI x2] none [aI y0] h = bI (rOK sc h (aD p0) 12 = true) (bC (Call sc n_X10_writes [aD p0, aI x1] h) (fun v z => Run sc n_X10_through 11 [aD p0, aI x1, aI x2] none (v.toList ++ [aI x2, aI y0]) z) (fun E z => some (.inr E, z))) := by
  refine (s_go mt_X10_through dX10_through_5 rfl).trans ?_
  refine (s_go mt_X10_through dX10_through_6 rfl).trans ?_
  refine (s_go mt_X10_through dX10_through_7 rfl).trans ?_
  exact q_cV mt_X10_through dX10_through_8 rfl mt_X10_writes rfl rfl rfl
theorem e_X10_through_11 (sc : SC) (p0 : Nat) (x1 : Int32) (x2 : Int32) (y0 : Int32) (y1 : Int32) (y2 : Int32) (h : AH) : Run sc n_X10_through 11 [aD p0, aI x1, aI x2] none [aI y2, aI y1, aI y0] h = some (.inl (some (aI (y0 ||| (y1 &&& (y2 ^^^ (-1)))))), h) := by
  refine (s_go mt_X10_through dX10_through_11 rfl).trans ?_
  refine (s_go mt_X10_through dX10_through_12 rfl).trans ?_
  refine (s_go mt_X10_through dX10_through_13 rfl).trans ?_
  refine (s_go mt_X10_through dX10_through_14 rfl).trans ?_
  exact q_ret (c := (some (aI (y0 ||| (y1 &&& (y2 ^^^ (-1))))), h)) mt_X10_through dX10_through_15 rfl
/-! BranchSlotFillerModel.liveNow(I)I -/
theorem e_X10_liveNow_0 (sc : SC) (p0 : Nat) (x1 : Int32) (v2 : AV) (v3 : AV) (v4 : AV) (h : AH) : Run sc n_X10_liveNow 0 [aD p0, aI x1, v2, v3, v4] none [] h = bI (rOK sc h (aD p0) 12 = true) (bC (Call sc n_X10_at [aD p0, aI x1, aI (nI 0)] h) (fun v z => Run sc n_X10_liveNow 6 [aD p0, aI x1, v2, v3, v4] none (v.toList ++ []) z) (fun E z => some (.inr E, z))) := by
  refine (s_go mt_X10_liveNow dX10_liveNow_0 rfl).trans ?_
  refine (s_go mt_X10_liveNow dX10_liveNow_1 rfl).trans ?_
  refine (s_go mt_X10_liveNow dX10_liveNow_2 rfl).trans ?_
  exact q_cV mt_X10_liveNow dX10_liveNow_3 rfl mt_X10_at rfl rfl rfl
theorem e_X10_liveNow_14 (sc : SC) (p0 : Nat) (x1 : Int32) (x2 : Int32) (v3 : AV) (v4 : AV) (h : AH) : Run sc n_X10_liveNow 14 [aD p0, aI x1, aI x2, v3, v4] none [] h = Run sc n_X10_liveNow (if ¬ x2 = (nI 11) then 24 else 20) [aD p0, aI x1, aI x2, v3, v4] none [] h := by
  refine (s_go mt_X10_liveNow dX10_liveNow_14 rfl).trans ?_
  refine (s_go mt_X10_liveNow dX10_liveNow_15 rfl).trans ?_
  exact q_icmp mt_X10_liveNow dX10_liveNow_17 (fun _ _ _ _ => rfl) rfl
theorem e_X10_liveNow_20 (sc : SC) (p0 : Nat) (x1 : Int32) (x2 : Int32) (v3 : AV) (v4 : AV) (h : AH) : Run sc n_X10_liveNow 20 [aD p0, aI x1, aI x2, v3, v4] none [] h = Run sc n_X10_liveNow 37 [aD p0, aI x1, aI x2, v3, v4] none [aI (nI 0)] h := by
  refine (s_go mt_X10_liveNow dX10_liveNow_20 rfl).trans ?_
  refine (s_go mt_X10_liveNow dX10_liveNow_21 rfl).trans ?_
  exact rfl
theorem e_X10_liveNow_24 (sc : SC) (p0 : Nat) (x1 : Int32) (x2 : Int32) (v3 : AV) (v4 : AV) (h : AH) : Run sc n_X10_liveNow 24 [aD p0, aI x1, aI x2, v3, v4] none [] h = bF (getF sc h (aD p0) 12 14) (fun z => Run sc n_X10_liveNow 30 [aD p0, aI x1, aI x2, v3, v4] none [z, aI x1, aD p0] h) := by
  refine (s_go mt_X10_liveNow dX10_liveNow_24 rfl).trans ?_
  refine (s_go mt_X10_liveNow dX10_liveNow_25 rfl).trans ?_
  refine (s_go mt_X10_liveNow dX10_liveNow_26 rfl).trans ?_
  exact q_getfield mt_X10_liveNow dX10_liveNow_27 rfl
theorem e_X10_liveNow_37 (sc : SC) (p0 : Nat) (x1 : Int32) (x2 : Int32) (v3 : AV) (v4 : AV) (y0 : Int32) (h : AH) : Run sc n_X10_liveNow 37 [aD p0, aI x1, aI x2, v3, v4] none [aI y0] h = some (.inl (some (aI y0)), h) := by
  exact q_ret (c := (some (aI y0), h)) mt_X10_liveNow dX10_liveNow_37 rfl
theorem e_X10_liveNow_38 (sc : SC) (p0 : Nat) (x1 : Int32) (x2 : Int32) (v3 : AV) (v4 : AV) (h : AH) : Run sc n_X10_liveNow 38 [aD p0, aI x1, aI x2, v3, v4] none [] h = bF (getF sc h (aD p0) 12 14) (fun z => Run sc n_X10_liveNow 46 [aD p0, aI x1, aI x2, v3, v4] none [z, aI (x1 + (nI 1)), aD p0] h) := by
  refine (s_go mt_X10_liveNow dX10_liveNow_38 rfl).trans ?_
  refine (s_go mt_X10_liveNow dX10_liveNow_39 rfl).trans ?_
  refine (s_go mt_X10_liveNow dX10_liveNow_40 rfl).trans ?_
  refine (s_go mt_X10_liveNow dX10_liveNow_41 rfl).trans ?_
  refine (s_go mt_X10_liveNow dX10_liveNow_42 rfl).trans ?_
  exact q_getfield mt_X10_liveNow dX10_liveNow_43 rfl
theorem e_X10_liveNow_63 (sc : SC) (p0 : Nat) (x1 : Int32) (x2 : Int32) (x3 : Int32) (v4 : AV) (h : AH) : Run sc n_X10_liveNow 63 [aD p0, aI x1, aI x2, aI x3, v4] none [] h = Run sc n_X10_liveNow 103 [aD p0, aI x1, aI x2, aI x3, v4] none [aI (nI 0)] h := by
  refine (s_go mt_X10_liveNow dX10_liveNow_63 rfl).trans ?_
  refine (s_go mt_X10_liveNow dX10_liveNow_64 rfl).trans ?_
  exact rfl
theorem e_X10_liveNow_67 (sc : SC) (p0 : Nat) (x1 : Int32) (x2 : Int32) (x3 : Int32) (v4 : AV) (h : AH) : Run sc n_X10_liveNow 67 [aD p0, aI x1, aI x2, aI x3, v4] none [] h = bI (rOK sc h (aD p0) 12 = true) (bC (Call sc n_X10_at [aD p0, aI x1, aI (nI 4)] h) (fun v z => Run sc n_X10_liveNow 73 [aD p0, aI x1, aI x2, aI x3, v4] none (v.toList ++ []) z) (fun E z => some (.inr E, z))) := by
  refine (s_go mt_X10_liveNow dX10_liveNow_67 rfl).trans ?_
  refine (s_go mt_X10_liveNow dX10_liveNow_68 rfl).trans ?_
  refine (s_go mt_X10_liveNow dX10_liveNow_69 rfl).trans ?_
  exact q_cV mt_X10_liveNow dX10_liveNow_70 rfl mt_X10_at rfl rfl rfl
theorem e_X10_liveNow_77 (sc : SC) (p0 : Nat) (x1 : Int32) (x2 : Int32) (x3 : Int32) (v4 : AV) (h : AH) : Run sc n_X10_liveNow 77 [aD p0, aI x1, aI x2, aI x3, v4] none [] h = bF (getF sc h (aD p0) 12 14) (fun z => Run sc n_X10_liveNow 81 [aD p0, aI x1, aI x2, aI x3, v4] none [z] h) := by
  refine (s_go mt_X10_liveNow dX10_liveNow_77 rfl).trans ?_
  exact q_getfield mt_X10_liveNow dX10_liveNow_78 rfl
theorem e_X10_liveNow_88 (sc : SC) (p0 : Nat) (x1 : Int32) (x2 : Int32) (x3 : Int32) (v4 : AV) (h : AH) : Run sc n_X10_liveNow 88 [aD p0, aI x1, aI x2, aI x3, v4] none [] h = bF (getF sc h (aD p0) 12 14) (fun z => Run sc n_X10_liveNow 96 [aD p0, aI x1, aI x2, aI x3, v4] none [z, aI (x1 + (nI 1)), aD p0] h) := by
  refine (s_go mt_X10_liveNow dX10_liveNow_88 rfl).trans ?_
  refine (s_go mt_X10_liveNow dX10_liveNow_89 rfl).trans ?_
  refine (s_go mt_X10_liveNow dX10_liveNow_90 rfl).trans ?_
  refine (s_go mt_X10_liveNow dX10_liveNow_91 rfl).trans ?_
  refine (s_go mt_X10_liveNow dX10_liveNow_92 rfl).trans ?_
  exact q_getfield mt_X10_liveNow dX10_liveNow_93 rfl
theorem e_X10_liveNow_103 (sc : SC) (p0 : Nat) (x1 : Int32) (x2 : Int32) (x3 : Int32) (v4 : AV) (y0 : Int32) (h : AH) : Run sc n_X10_liveNow 103 [aD p0, aI x1, aI x2, aI x3, v4] none [aI y0] h = bI (rOK sc h (aD p0) 12 = true) (bC (Call sc n_X10_reads [aD p0, aI x1] h) (fun v z => Run sc n_X10_liveNow 110 [aD p0, aI x1, aI x2, aI x3, aI y0] none (v.toList ++ []) z) (fun E z => some (.inr E, z))) := by
  refine (s_go mt_X10_liveNow dX10_liveNow_103 rfl).trans ?_
  refine (s_go mt_X10_liveNow dX10_liveNow_105 rfl).trans ?_
  refine (s_go mt_X10_liveNow dX10_liveNow_106 rfl).trans ?_
  exact q_cV mt_X10_liveNow dX10_liveNow_107 rfl mt_X10_reads rfl rfl rfl
theorem e_X10_liveNow_6 (sc : SC) (p0 : Nat) (x1 : Int32) (v2 : AV) (v3 : AV) (v4 : AV) (y0 : Int32) (h : AH) : Run sc n_X10_liveNow 6 [aD p0, aI x1, v2, v3, v4] none [aI y0] h = bC (Call sc n_X10_isBranch [aI y0] h) (fun v z => Run sc n_X10_liveNow 11 [aD p0, aI x1, aI y0, v3, v4] none (v.toList ++ []) z) (fun E z => some (.inr E, z)) := by
  refine (s_go mt_X10_liveNow dX10_liveNow_6 rfl).trans ?_
  refine (s_go mt_X10_liveNow dX10_liveNow_7 rfl).trans ?_
  exact q_cS mt_X10_liveNow dX10_liveNow_8 rfl mt_X10_isBranch rfl rfl
theorem e_X10_liveNow_30 (sc : SC) (p0 : Nat) (x1 : Int32) (x2 : Int32) (v3 : AV) (v4 : AV) (q0 : Nat) (y1 : Int32) (q2 : Nat) (h : AH) : Run sc n_X10_liveNow 30 [aD p0, aI x1, aI x2, v3, v4] none [aD q2, aI y1, aD q0] h = bO (ldI sc h (fun t => t == 0) (aD q2) (x1 + (nI 1))) (fun z => Run sc n_X10_liveNow 34 [aD p0, aI x1, aI x2, v3, v4] none [aI z, aI y1, aD q0] h) := by
  refine (s_go mt_X10_liveNow dX10_liveNow_30 rfl).trans ?_
  refine (s_go mt_X10_liveNow dX10_liveNow_31 rfl).trans ?_
  refine (s_go mt_X10_liveNow dX10_liveNow_32 rfl).trans ?_
  exact q_iaload mt_X10_liveNow dX10_liveNow_33
theorem e_X10_liveNow_46 (sc : SC) (p0 : Nat) (x1 : Int32) (x2 : Int32) (v3 : AV) (v4 : AV) (q0 : Nat) (y1 : Int32) (q2 : Nat) (h : AH) : Run sc n_X10_liveNow 46 [aD p0, aI x1, aI x2, v3, v4] none [aD q2, aI y1, aD q0] h = bI (rOK sc h (aD p0) 12 = true) (bC (Call sc n_X10_at [aD p0, aI x1, aI (nI 3)] h) (fun v z => Run sc n_X10_liveNow 52 [aD p0, aI x1, aI x2, v3, v4] none (v.toList ++ [aD q2, aI y1, aD q0]) z) (fun E z => some (.inr E, z))) := by
  refine (s_go mt_X10_liveNow dX10_liveNow_46 rfl).trans ?_
  refine (s_go mt_X10_liveNow dX10_liveNow_47 rfl).trans ?_
  refine (s_go mt_X10_liveNow dX10_liveNow_48 rfl).trans ?_
  exact q_cV mt_X10_liveNow dX10_liveNow_49 rfl mt_X10_at rfl rfl rfl
theorem e_X10_liveNow_73 (sc : SC) (p0 : Nat) (x1 : Int32) (x2 : Int32) (x3 : Int32) (v4 : AV) (y0 : Int32) (h : AH) : Run sc n_X10_liveNow 73 [aD p0, aI x1, aI x2, aI x3, v4] none [aI y0] h = Run sc n_X10_liveNow (if ¬ y0 = (nI 1) then 88 else 77) [aD p0, aI x1, aI x2, aI x3, v4] none [] h := by
  refine (s_go mt_X10_liveNow dX10_liveNow_73 rfl).trans ?_
  exact q_icmp mt_X10_liveNow dX10_liveNow_74 (fun _ _ _ _ => rfl) rfl
theorem e_X10_liveNow_81 (sc : SC) (p0 : Nat) (x1 : Int32) (x2 : Int32) (x3 : Int32) (v4 : AV) (q0 : Nat) (h : AH) : Run sc n_X10_liveNow 81 [aD p0, aI x1, aI x2, aI x3, v4] none [aD q0] h = bO (ldI sc h (fun t => t == 0) (aD q0) (x1 + (nI 2))) (fun z => Run sc n_X10_liveNow 85 [aD p0, aI x1, aI x2, aI x3, v4] none [aI z] h) := by
  refine (s_go mt_X10_liveNow dX10_liveNow_81 rfl).trans ?_
  refine (s_go mt_X10_liveNow dX10_liveNow_82 rfl).trans ?_
  refine (s_go mt_X10_liveNow dX10_liveNow_83 rfl).trans ?_
  exact q_iaload mt_X10_liveNow dX10_liveNow_84
theorem e_X10_liveNow_96 (sc : SC) (p0 : Nat) (x1 : Int32) (x2 : Int32) (x3 : Int32) (v4 : AV) (q0 : Nat) (y1 : Int32) (q2 : Nat) (h : AH) : Run sc n_X10_liveNow 96 [aD p0, aI x1, aI x2, aI x3, v4] none [aD q2, aI y1, aD q0] h = bO (ldI sc h (fun t => t == 0) (aD q2) (x1 + (nI 2))) (fun z => Run sc n_X10_liveNow 100 [aD p0, aI x1, aI x2, aI x3, v4] none [aI z, aI y1, aD q0] h) := by
  refine (s_go mt_X10_liveNow dX10_liveNow_96 rfl).trans ?_
  refine (s_go mt_X10_liveNow dX10_liveNow_97 rfl).trans ?_
  refine (s_go mt_X10_liveNow dX10_liveNow_98 rfl).trans ?_
  exact q_iaload mt_X10_liveNow dX10_liveNow_99
theorem e_X10_liveNow_110 (sc : SC) (p0 : Nat) (x1 : Int32) (x2 : Int32) (x3 : Int32) (x4 : Int32) (y0 : Int32) (h : AH) : Run sc n_X10_liveNow 110 [aD p0, aI x1, aI x2, aI x3, aI x4] none [aI y0] h = some (.inl (some (aI ((y0 ||| x3) ||| x4))), h) := by
  refine (s_go mt_X10_liveNow dX10_liveNow_110 rfl).trans ?_
  refine (s_go mt_X10_liveNow dX10_liveNow_111 rfl).trans ?_
  refine (s_go mt_X10_liveNow dX10_liveNow_112 rfl).trans ?_
  refine (s_go mt_X10_liveNow dX10_liveNow_114 rfl).trans ?_
  exact q_ret (c := (some (aI ((y0 ||| x3) ||| x4)), h)) mt_X10_liveNow dX10_liveNow_115 rfl
theorem e_X10_liveNow_11 (sc : SC) (p0 : Nat) (x1 : Int32) (x2 : Int32) (v3 : AV) (v4 : AV) (y0 : Int32) (h : AH) : Run sc n_X10_liveNow 11 [aD p0, aI x1, aI x2, v3, v4] none [aI y0] h = Run sc n_X10_liveNow (if ¬ y0 = 0 then 38 else 14) [aD p0, aI x1, aI x2, v3, v4] none [] h := by
  exact q_if mt_X10_liveNow dX10_liveNow_11 (fun _ _ _ _ => rfl) rfl
theorem e_X10_liveNow_34 (sc : SC) (p0 : Nat) (x1 : Int32) (x2 : Int32) (v3 : AV) (v4 : AV) (q0 : Nat) (y1 : Int32) (y2 : Int32) (h : AH) : Run sc n_X10_liveNow 34 [aD p0, aI x1, aI x2, v3, v4] none [aI y2, aI y1, aD q0] h = bI (rOK sc h (aD q0) 12 = true) (bC (Call sc n_X10_through [aD q0, aI y1, aI y2] h) (fun v z => Run sc n_X10_liveNow 37 [aD p0, aI x1, aI x2, v3, v4] none (v.toList ++ []) z) (fun E z => some (.inr E, z))) := by
  exact q_cV mt_X10_liveNow dX10_liveNow_34 rfl mt_X10_through rfl rfl rfl
theorem e_X10_liveNow_52 (sc : SC) (p0 : Nat) (x1 : Int32) (x2 : Int32) (v3 : AV) (v4 : AV) (q0 : Nat) (y1 : Int32) (q2 : Nat) (y3 : Int32) (h : AH) : Run sc n_X10_liveNow 52 [aD p0, aI x1, aI x2, v3, v4] none [aI y3, aD q2, aI y1, aD q0] h = bO (ldI sc h (fun t => t == 0) (aD q2) y3) (fun z => Run sc n_X10_liveNow 53 [aD p0, aI x1, aI x2, v3, v4] none [aI z, aI y1, aD q0] h) := by
  exact q_iaload mt_X10_liveNow dX10_liveNow_52
theorem e_X10_liveNow_85 (sc : SC) (p0 : Nat) (x1 : Int32) (x2 : Int32) (x3 : Int32) (v4 : AV) (y0 : Int32) (h : AH) : Run sc n_X10_liveNow 85 [aD p0, aI x1, aI x2, aI x3, v4] none [aI y0] h = Run sc n_X10_liveNow 103 [aD p0, aI x1, aI x2, aI x3, v4] none [aI y0] h := by
  refine (s_go mt_X10_liveNow dX10_liveNow_85 rfl).trans ?_
  exact rfl
theorem e_X10_liveNow_100 (sc : SC) (p0 : Nat) (x1 : Int32) (x2 : Int32) (x3 : Int32) (v4 : AV) (q0 : Nat) (y1 : Int32) (y2 : Int32) (h : AH) : Run sc n_X10_liveNow 100 [aD p0, aI x1, aI x2, aI x3, v4] none [aI y2, aI y1, aD q0] h = bI (rOK sc h (aD q0) 12 = true) (bC (Call sc n_X10_through [aD q0, aI y1, aI y2] h) (fun v z => Run sc n_X10_liveNow 103 [aD p0, aI x1, aI x2, aI x3, v4] none (v.toList ++ []) z) (fun E z => some (.inr E, z))) := by
  exact q_cV mt_X10_liveNow dX10_liveNow_100 rfl mt_X10_through rfl rfl rfl
theorem e_X10_liveNow_53 (sc : SC) (p0 : Nat) (x1 : Int32) (x2 : Int32) (v3 : AV) (v4 : AV) (q0 : Nat) (y1 : Int32) (y2 : Int32) (h : AH) : Run sc n_X10_liveNow 53 [aD p0, aI x1, aI x2, v3, v4] none [aI y2, aI y1, aD q0] h = bI (rOK sc h (aD q0) 12 = true) (bC (Call sc n_X10_through [aD q0, aI y1, aI y2] h) (fun v z => Run sc n_X10_liveNow 56 [aD p0, aI x1, aI x2, v3, v4] none (v.toList ++ []) z) (fun E z => some (.inr E, z))) := by
  exact q_cV mt_X10_liveNow dX10_liveNow_53 rfl mt_X10_through rfl rfl rfl
theorem e_X10_liveNow_56 (sc : SC) (p0 : Nat) (x1 : Int32) (x2 : Int32) (v3 : AV) (v4 : AV) (y0 : Int32) (h : AH) : Run sc n_X10_liveNow 56 [aD p0, aI x1, aI x2, v3, v4] none [aI y0] h = Run sc n_X10_liveNow (if ¬ x2 = (nI 10) then 67 else 63) [aD p0, aI x1, aI x2, aI y0, v4] none [] h := by
  refine (s_go mt_X10_liveNow dX10_liveNow_56 rfl).trans ?_
  refine (s_go mt_X10_liveNow dX10_liveNow_57 rfl).trans ?_
  refine (s_go mt_X10_liveNow dX10_liveNow_58 rfl).trans ?_
  exact q_icmp mt_X10_liveNow dX10_liveNow_60 (fun _ _ _ _ => rfl) rfl
/-! BranchSlotFillerModel.findLives()V -/
theorem e_X10_findLives_0 (sc : SC) (p0 : Nat) (v1 : AV) (v2 : AV) (h : AH) : Run sc n_X10_findLives 0 [aD p0, v1, v2] none [] h = Run sc n_X10_findLives 2 [aD p0, aI (nI 0), v2] none [] h := by
  refine (s_go mt_X10_findLives dX10_findLives_0 rfl).trans ?_
  refine (s_go mt_X10_findLives dX10_findLives_1 rfl).trans ?_
  exact rfl
theorem e_X10_findLives_2 (sc : SC) (p0 : Nat) (x1 : Int32) (v2 : AV) (h : AH) : Run sc n_X10_findLives 2 [aD p0, aI x1, v2] none [] h = Run sc n_X10_findLives (if (nI 61) < x1 then 21 else 8) [aD p0, aI x1, v2] none [] h := by
  refine (s_go mt_X10_findLives dX10_findLives_2 rfl).trans ?_
  refine (s_go mt_X10_findLives dX10_findLives_3 rfl).trans ?_
  exact q_icmp mt_X10_findLives dX10_findLives_5 (fun _ _ _ _ => rfl) rfl
theorem e_X10_findLives_8 (sc : SC) (p0 : Nat) (x1 : Int32) (v2 : AV) (h : AH) : Run sc n_X10_findLives 8 [aD p0, aI x1, v2] none [] h = bF (getF sc h (aD p0) 12 14) (fun z => Run sc n_X10_findLives 12 [aD p0, aI x1, v2] none [z] h) := by
  refine (s_go mt_X10_findLives dX10_findLives_8 rfl).trans ?_
  exact q_getfield mt_X10_findLives dX10_findLives_9 rfl
theorem e_X10_findLives_21 (sc : SC) (p0 : Nat) (x1 : Int32) (v2 : AV) (h : AH) : Run sc n_X10_findLives 21 [aD p0, aI x1, v2] none [] h = Run sc n_X10_findLives 23 [aD p0, aI (nI 0), v2] none [] h := by
  refine (s_go mt_X10_findLives dX10_findLives_21 rfl).trans ?_
  refine (s_go mt_X10_findLives dX10_findLives_22 rfl).trans ?_
  exact rfl
theorem e_X10_findLives_23 (sc : SC) (p0 : Nat) (x1 : Int32) (v2 : AV) (h : AH) : Run sc n_X10_findLives 23 [aD p0, aI x1, v2] none [] h = bI (rOK sc h (aD p0) 12 = true) (bC (Call sc n_X10_entryMany [aD p0] h) (fun v z => Run sc n_X10_findLives 28 [aD p0, aI x1, v2] none (v.toList ++ [aI x1]) z) (fun E z => some (.inr E, z))) := by
  refine (s_go mt_X10_findLives dX10_findLives_23 rfl).trans ?_
  refine (s_go mt_X10_findLives dX10_findLives_24 rfl).trans ?_
  exact q_cV mt_X10_findLives dX10_findLives_25 rfl mt_X10_entryMany rfl rfl rfl
theorem e_X10_findLives_31 (sc : SC) (p0 : Nat) (x1 : Int32) (v2 : AV) (h : AH) : Run sc n_X10_findLives 31 [aD p0, aI x1, v2] none [] h = bI (rOK sc h (aD p0) 12 = true) (bC (Call sc n_X10_entryMany [aD p0] h) (fun v z => Run sc n_X10_findLives 35 [aD p0, aI x1, v2] none (v.toList ++ []) z) (fun E z => some (.inr E, z))) := by
  refine (s_go mt_X10_findLives dX10_findLives_31 rfl).trans ?_
  exact q_cV mt_X10_findLives dX10_findLives_32 rfl mt_X10_entryMany rfl rfl rfl
theorem e_X10_findLives_38 (sc : SC) (p0 : Nat) (x1 : Int32) (x2 : Int32) (h : AH) : Run sc n_X10_findLives 38 [aD p0, aI x1, aI x2] none [] h = Run sc n_X10_findLives (if x2 < 0 then 71 else 42) [aD p0, aI x1, aI x2] none [] h := by
  refine (s_go mt_X10_findLives dX10_findLives_38 rfl).trans ?_
  exact q_if mt_X10_findLives dX10_findLives_39 (fun _ _ _ _ => rfl) rfl
theorem e_X10_findLives_42 (sc : SC) (p0 : Nat) (x1 : Int32) (x2 : Int32) (h : AH) : Run sc n_X10_findLives 42 [aD p0, aI x1, aI x2] none [] h = bF (getF sc h (aD p0) 12 14) (fun z => Run sc n_X10_findLives 46 [aD p0, aI x1, aI x2] none [z] h) := by
  refine (s_go mt_X10_findLives dX10_findLives_42 rfl).trans ?_
  exact q_getfield mt_X10_findLives dX10_findLives_43 rfl
theorem e_X10_findLives_55 (sc : SC) (p0 : Nat) (x1 : Int32) (x2 : Int32) (q0 : Nat) (y1 : Int32) (h : AH) : Run sc n_X10_findLives 55 [aD p0, aI x1, aI x2] none [aI y1, aD q0] h = Run sc n_X10_findLives 64 [aD p0, aI x1, aI x2] none [aI (nI 0), aI y1, aD q0] h := by
  refine (s_go mt_X10_findLives dX10_findLives_55 rfl).trans ?_
  refine (s_go mt_X10_findLives dX10_findLives_56 rfl).trans ?_
  exact rfl
theorem e_X10_findLives_59 (sc : SC) (p0 : Nat) (x1 : Int32) (x2 : Int32) (q0 : Nat) (y1 : Int32) (h : AH) : Run sc n_X10_findLives 59 [aD p0, aI x1, aI x2] none [aI y1, aD q0] h = bI (rOK sc h (aD p0) 12 = true) (bC (Call sc n_X10_liveNow [aD p0, aI x2] h) (fun v z => Run sc n_X10_findLives 64 [aD p0, aI x1, aI x2] none (v.toList ++ [aI y1, aD q0]) z) (fun E z => some (.inr E, z))) := by
  refine (s_go mt_X10_findLives dX10_findLives_59 rfl).trans ?_
  refine (s_go mt_X10_findLives dX10_findLives_60 rfl).trans ?_
  exact q_cV mt_X10_findLives dX10_findLives_61 rfl mt_X10_liveNow rfl rfl rfl
theorem e_X10_findLives_64 (sc : SC) (p0 : Nat) (x1 : Int32) (x2 : Int32) (q0 : Nat) (y1 : Int32) (y2 : Int32) (h : AH) : Run sc n_X10_findLives 64 [aD p0, aI x1, aI x2] none [aI y2, aI y1, aD q0] h = bO (stI h (fun t => t == 0) q0 y1 y2) (fun z => Run sc n_X10_findLives 65 [aD p0, aI x1, aI x2] none [] z) := by
  exact q_iastore mt_X10_findLives dX10_findLives_64
theorem e_X10_findLives_71 (sc : SC) (p0 : Nat) (x1 : Int32) (x2 : Int32) (h : AH) : Run sc n_X10_findLives 71 [aD p0, aI x1, aI x2] none [] h = Run sc n_X10_findLives 23 [aD p0, aI (x1 + nI 1), aI x2] none [] h := by
  refine (s_go mt_X10_findLives dX10_findLives_71 rfl).trans ?_
  refine (s_go mt_X10_findLives dX10_findLives_74 rfl).trans ?_
  exact rfl
theorem e_X10_findLives_77 (sc : SC) (p0 : Nat) (x1 : Int32) (v2 : AV) (h : AH) : Run sc n_X10_findLives 77 [aD p0, aI x1, v2] none [] h = some (.inl none, h) := by
  exact q_ret (c := (none, h)) mt_X10_findLives dX10_findLives_77 rfl
theorem e_X10_findLives_12 (sc : SC) (p0 : Nat) (x1 : Int32) (v2 : AV) (q0 : Nat) (h : AH) : Run sc n_X10_findLives 12 [aD p0, aI x1, v2] none [aD q0] h = bO (stI h (fun t => t == 0) q0 x1 (nI 0)) (fun z => Run sc n_X10_findLives 15 [aD p0, aI x1, v2] none [] z) := by
  refine (s_go mt_X10_findLives dX10_findLives_12 rfl).trans ?_
  refine (s_go mt_X10_findLives dX10_findLives_13 rfl).trans ?_
  exact q_iastore mt_X10_findLives dX10_findLives_14
theorem e_X10_findLives_28 (sc : SC) (p0 : Nat) (x1 : Int32) (v2 : AV) (y0 : Int32) (y1 : Int32) (h : AH) : Run sc n_X10_findLives 28 [aD p0, aI x1, v2] none [aI y1, aI y0] h = Run sc n_X10_findLives (if y1 < y0 then 77 else 31) [aD p0, aI x1, v2] none [] h := by
  exact q_icmp mt_X10_findLives dX10_findLives_28 (fun _ _ _ _ => rfl) rfl
theorem e_X10_findLives_35 (sc : SC) (p0 : Nat) (x1 : Int32) (v2 : AV) (y0 : Int32) (h : AH) : Run sc n_X10_findLives 35 [aD p0, aI x1, v2] none [aI y0] h = Run sc n_X10_findLives 38 [aD p0, aI x1, aI (y0 - (nI 1))] none [] h := by
  refine (s_go mt_X10_findLives dX10_findLives_35 rfl).trans ?_
  refine (s_go mt_X10_findLives dX10_findLives_36 rfl).trans ?_
  refine (s_go mt_X10_findLives dX10_findLives_37 rfl).trans ?_
  exact rfl
theorem e_X10_findLives_46 (sc : SC) (p0 : Nat) (x1 : Int32) (x2 : Int32) (q0 : Nat) (h : AH) : Run sc n_X10_findLives 46 [aD p0, aI x1, aI x2] none [aD q0] h = bI (rOK sc h (aD p0) 12 = true) (bC (Call sc n_X10_isSlot [aD p0, aI x2] h) (fun v z => Run sc n_X10_findLives 52 [aD p0, aI x1, aI x2] none (v.toList ++ [aI x2, aD q0]) z) (fun E z => some (.inr E, z))) := by
  refine (s_go mt_X10_findLives dX10_findLives_46 rfl).trans ?_
  refine (s_go mt_X10_findLives dX10_findLives_47 rfl).trans ?_
  refine (s_go mt_X10_findLives dX10_findLives_48 rfl).trans ?_
  exact q_cV mt_X10_findLives dX10_findLives_49 rfl mt_X10_isSlot rfl rfl rfl
theorem e_X10_findLives_65 (sc : SC) (p0 : Nat) (x1 : Int32) (x2 : Int32) (h : AH) : Run sc n_X10_findLives 65 [aD p0, aI x1, aI x2] none [] h = Run sc n_X10_findLives 38 [aD p0, aI x1, aI (x2 + (-1))] none [] h := by
  refine (s_go mt_X10_findLives dX10_findLives_65 rfl).trans ?_
  refine (s_go mt_X10_findLives dX10_findLives_68 rfl).trans ?_
  exact rfl
theorem e_X10_findLives_15 (sc : SC) (p0 : Nat) (x1 : Int32) (v2 : AV) (h : AH) : Run sc n_X10_findLives 15 [aD p0, aI x1, v2] none [] h = Run sc n_X10_findLives 2 [aD p0, aI (x1 + nI 1), v2] none [] h := by
  refine (s_go mt_X10_findLives dX10_findLives_15 rfl).trans ?_
  refine (s_go mt_X10_findLives dX10_findLives_18 rfl).trans ?_
  exact rfl
theorem e_X10_findLives_52 (sc : SC) (p0 : Nat) (x1 : Int32) (x2 : Int32) (q0 : Nat) (y1 : Int32) (y2 : Int32) (h : AH) : Run sc n_X10_findLives 52 [aD p0, aI x1, aI x2] none [aI y2, aI y1, aD q0] h = Run sc n_X10_findLives (if y2 = 0 then 59 else 55) [aD p0, aI x1, aI x2] none [aI y1, aD q0] h := by
  exact q_if mt_X10_findLives dX10_findLives_52 (fun _ _ _ _ => rfl) rfl
/-! BranchSlotFillerModel.live(I)I -/
theorem e_X10_live_0 (sc : SC) (p0 : Nat) (x1 : Int32) (h : AH) : Run sc n_X10_live 0 [aD p0, aI x1] none [] h = bI (rOK sc h (aD p0) 12 = true) (bC (Call sc n_X10_entryMany [aD p0] h) (fun v z => Run sc n_X10_live 7 [aD p0, aI x1] none (v.toList ++ [aI (nI 0), aI x1, aD p0]) z) (fun E z => some (.inr E, z))) := by
  refine (s_go mt_X10_live dX10_live_0 rfl).trans ?_
  refine (s_go mt_X10_live dX10_live_1 rfl).trans ?_
  refine (s_go mt_X10_live dX10_live_2 rfl).trans ?_
  refine (s_go mt_X10_live dX10_live_3 rfl).trans ?_
  exact q_cV mt_X10_live dX10_live_4 rfl mt_X10_entryMany rfl rfl rfl
theorem e_X10_live_13 (sc : SC) (p0 : Nat) (x1 : Int32) (q0 : Nat) (h : AH) : Run sc n_X10_live 13 [aD p0, aI x1] none [aD q0] h = Run sc n_X10_live 38 [aD p0, aI x1] none [aI (nI 1), aD q0] h := by
  refine (s_go mt_X10_live dX10_live_13 rfl).trans ?_
  refine (s_go mt_X10_live dX10_live_14 rfl).trans ?_
  exact rfl
theorem e_X10_live_17 (sc : SC) (p0 : Nat) (x1 : Int32) (q0 : Nat) (h : AH) : Run sc n_X10_live 17 [aD p0, aI x1] none [aD q0] h = bI (rOK sc h (aD p0) 12 = true) (bC (Call sc n_X10_isEntry [aD p0, aI x1] h) (fun v z => Run sc n_X10_live 22 [aD p0, aI x1] none (v.toList ++ [aD q0]) z) (fun E z => some (.inr E, z))) := by
  refine (s_go mt_X10_live dX10_live_17 rfl).trans ?_
  refine (s_go mt_X10_live dX10_live_18 rfl).trans ?_
  exact q_cV mt_X10_live dX10_live_19 rfl mt_X10_isEntry rfl rfl rfl
theorem e_X10_live_25 (sc : SC) (p0 : Nat) (x1 : Int32) (q0 : Nat) (h : AH) : Run sc n_X10_live 25 [aD p0, aI x1] none [aD q0] h = bI (rOK sc h (aD p0) 12 = true) (bC (Call sc n_X10_isSlot [aD p0, aI x1] h) (fun v z => Run sc n_X10_live 30 [aD p0, aI x1] none (v.toList ++ [aD q0]) z) (fun E z => some (.inr E, z))) := by
  refine (s_go mt_X10_live dX10_live_25 rfl).trans ?_
  refine (s_go mt_X10_live dX10_live_26 rfl).trans ?_
  exact q_cV mt_X10_live dX10_live_27 rfl mt_X10_isSlot rfl rfl rfl
theorem e_X10_live_33 (sc : SC) (p0 : Nat) (x1 : Int32) (q0 : Nat) (h : AH) : Run sc n_X10_live 33 [aD p0, aI x1] none [aD q0] h = Run sc n_X10_live 38 [aD p0, aI x1] none [aI (nI 2), aD q0] h := by
  refine (s_go mt_X10_live dX10_live_33 rfl).trans ?_
  refine (s_go mt_X10_live dX10_live_34 rfl).trans ?_
  exact rfl
theorem e_X10_live_37 (sc : SC) (p0 : Nat) (x1 : Int32) (q0 : Nat) (h : AH) : Run sc n_X10_live 37 [aD p0, aI x1] none [aD q0] h = Run sc n_X10_live 38 [aD p0, aI x1] none [aI (nI 0), aD q0] h := by
  refine (s_go mt_X10_live dX10_live_37 rfl).trans ?_
  exact rfl
theorem e_X10_live_38 (sc : SC) (p0 : Nat) (x1 : Int32) (q0 : Nat) (y1 : Int32) (h : AH) : Run sc n_X10_live 38 [aD p0, aI x1] none [aI y1, aD q0] h = bO (putF h q0 12 0 0 (aI y1)) (fun z => Run sc n_X10_live 41 [aD p0, aI x1] none [] z) := by
  exact q_putfield mt_X10_live dX10_live_38 rfl rfl rfl rfl
theorem e_X10_live_48 (sc : SC) (p0 : Nat) (x1 : Int32) (h : AH) : Run sc n_X10_live 48 [aD p0, aI x1] none [] h = some (.inl (some (aI (nI 0))), h) := by
  refine (s_go mt_X10_live dX10_live_48 rfl).trans ?_
  exact q_ret (c := (some (aI (nI 0)), h)) mt_X10_live dX10_live_49 rfl
theorem e_X10_live_50 (sc : SC) (p0 : Nat) (x1 : Int32) (h : AH) : Run sc n_X10_live 50 [aD p0, aI x1] none [] h = bI (rOK sc h (aD p0) 12 = true) (bC (Call sc n_X10_findLives [aD p0] h) (fun v z => Run sc n_X10_live 54 [aD p0, aI x1] none (v.toList ++ []) z) (fun E z => some (.inr E, z))) := by
  refine (s_go mt_X10_live dX10_live_50 rfl).trans ?_
  exact q_cV mt_X10_live dX10_live_51 rfl mt_X10_findLives rfl rfl rfl
theorem e_X10_live_7 (sc : SC) (p0 : Nat) (x1 : Int32) (q0 : Nat) (y1 : Int32) (y2 : Int32) (y3 : Int32) (h : AH) : Run sc n_X10_live 7 [aD p0, aI x1] none [aI y3, aI y2, aI y1, aD q0] h = bC (Call sc n_X10_isIn [aI y1, aI y2, aI y3] h) (fun v z => Run sc n_X10_live 10 [aD p0, aI x1] none (v.toList ++ [aD q0]) z) (fun E z => some (.inr E, z)) := by
  exact q_cS mt_X10_live dX10_live_7 rfl mt_X10_isIn rfl rfl
theorem e_X10_live_22 (sc : SC) (p0 : Nat) (x1 : Int32) (q0 : Nat) (y1 : Int32) (h : AH) : Run sc n_X10_live 22 [aD p0, aI x1] none [aI y1, aD q0] h = Run sc n_X10_live (if y1 = 0 then 37 else 25) [aD p0, aI x1] none [aD q0] h := by
  exact q_if mt_X10_live dX10_live_22 (fun _ _ _ _ => rfl) rfl
theorem e_X10_live_30 (sc : SC) (p0 : Nat) (x1 : Int32) (q0 : Nat) (y1 : Int32) (h : AH) : Run sc n_X10_live 30 [aD p0, aI x1] none [aI y1, aD q0] h = Run sc n_X10_live (if y1 = 0 then 37 else 33) [aD p0, aI x1] none [aD q0] h := by
  exact q_if mt_X10_live dX10_live_30 (fun _ _ _ _ => rfl) rfl
theorem e_X10_live_41 (sc : SC) (p0 : Nat) (x1 : Int32) (h : AH) : Run sc n_X10_live 41 [aD p0, aI x1] none [] h = bF (getF sc h (aD p0) 12 0) (fun z => Run sc n_X10_live 45 [aD p0, aI x1] none [z] h) := by
  refine (s_go mt_X10_live dX10_live_41 rfl).trans ?_
  exact q_getfield mt_X10_live dX10_live_42 rfl
theorem e_X10_live_54 (sc : SC) (p0 : Nat) (x1 : Int32) (h : AH) : Run sc n_X10_live 54 [aD p0, aI x1] none [] h = bF (getF sc h (aD p0) 12 14) (fun z => Run sc n_X10_live 58 [aD p0, aI x1] none [z] h) := by
  refine (s_go mt_X10_live dX10_live_54 rfl).trans ?_
  exact q_getfield mt_X10_live dX10_live_55 rfl
theorem e_X10_live_10 (sc : SC) (p0 : Nat) (x1 : Int32) (q0 : Nat) (y1 : Int32) (h : AH) : Run sc n_X10_live 10 [aD p0, aI x1] none [aI y1, aD q0] h = Run sc n_X10_live (if ¬ y1 = 0 then 17 else 13) [aD p0, aI x1] none [aD q0] h := by
  exact q_if mt_X10_live dX10_live_10 (fun _ _ _ _ => rfl) rfl
theorem e_X10_live_45 (sc : SC) (p0 : Nat) (x1 : Int32) (y0 : Int32) (h : AH) : Run sc n_X10_live 45 [aD p0, aI x1] none [aI y0] h = Run sc n_X10_live (if y0 = 0 then 50 else 48) [aD p0, aI x1] none [] h := by
  exact q_if mt_X10_live dX10_live_45 (fun _ _ _ _ => rfl) rfl
theorem e_X10_live_58 (sc : SC) (p0 : Nat) (x1 : Int32) (q0 : Nat) (h : AH) : Run sc n_X10_live 58 [aD p0, aI x1] none [aD q0] h = bO (ldI sc h (fun t => t == 0) (aD q0) x1) (fun z => Run sc n_X10_live 60 [aD p0, aI x1] none [aI z] h) := by
  refine (s_go mt_X10_live dX10_live_58 rfl).trans ?_
  exact q_iaload mt_X10_live dX10_live_59
theorem e_X10_live_60 (sc : SC) (p0 : Nat) (x1 : Int32) (y0 : Int32) (h : AH) : Run sc n_X10_live 60 [aD p0, aI x1] none [aI y0] h = some (.inl (some (aI y0)), h) := by
  exact q_ret (c := (some (aI y0), h)) mt_X10_live dX10_live_60 rfl
/-! BranchSlotFillerModel.areIndependent(II)Z -/
theorem e_X10_areIndependent_0 (sc : SC) (p0 : Nat) (x1 : Int32) (x2 : Int32) (v3 : AV) (v4 : AV) (h : AH) : Run sc n_X10_areIndependent 0 [aD p0, aI x1, aI x2, v3, v4] none [] h = bI (rOK sc h (aD p0) 12 = true) (bC (Call sc n_X10_at [aD p0, aI x1, aI (nI 0)] h) (fun v z => Run sc n_X10_areIndependent 6 [aD p0, aI x1, aI x2, v3, v4] none (v.toList ++ []) z) (fun E z => some (.inr E, z))) := by
  refine (s_go mt_X10_areIndependent dX10_areIndependent_0 rfl).trans ?_
  refine (s_go mt_X10_areIndependent dX10_areIndependent_1 rfl).trans ?_
  refine (s_go mt_X10_areIndependent dX10_areIndependent_2 rfl).trans ?_
  exact q_cV mt_X10_areIndependent dX10_areIndependent_3 rfl mt_X10_at rfl rfl rfl
theorem e_X10_areIndependent_15 (sc : SC) (p0 : Nat) (x1 : Int32) (x2 : Int32) (v3 : AV) (v4 : AV) (h : AH) : Run sc n_X10_areIndependent 15 [aD p0, aI x1, aI x2, v3, v4] none [] h = bI (rOK sc h (aD p0) 12 = true) (bC (Call sc n_X10_at [aD p0, aI x2, aI (nI 0)] h) (fun v z => Run sc n_X10_areIndependent 21 [aD p0, aI x1, aI x2, v3, v4] none (v.toList ++ []) z) (fun E z => some (.inr E, z))) := by
  refine (s_go mt_X10_areIndependent dX10_areIndependent_15 rfl).trans ?_
  refine (s_go mt_X10_areIndependent dX10_areIndependent_16 rfl).trans ?_
  refine (s_go mt_X10_areIndependent dX10_areIndependent_17 rfl).trans ?_
  exact q_cV mt_X10_areIndependent dX10_areIndependent_18 rfl mt_X10_at rfl rfl rfl
theorem e_X10_areIndependent_30 (sc : SC) (p0 : Nat) (x1 : Int32) (x2 : Int32) (v3 : AV) (v4 : AV) (h : AH) : Run sc n_X10_areIndependent 30 [aD p0, aI x1, aI x2, v3, v4] none [] h = bI (rOK sc h (aD p0) 12 = true) (bC (Call sc n_X10_at [aD p0, aI x1, aI (nI 0)] h) (fun v z => Run sc n_X10_areIndependent 36 [aD p0, aI x1, aI x2, v3, v4] none (v.toList ++ []) z) (fun E z => some (.inr E, z))) := by
  refine (s_go mt_X10_areIndependent dX10_areIndependent_30 rfl).trans ?_
  refine (s_go mt_X10_areIndependent dX10_areIndependent_31 rfl).trans ?_
  refine (s_go mt_X10_areIndependent dX10_areIndependent_32 rfl).trans ?_
  exact q_cV mt_X10_areIndependent dX10_areIndependent_33 rfl mt_X10_at rfl rfl rfl
theorem e_X10_areIndependent_41 (sc : SC) (p0 : Nat) (x1 : Int32) (x2 : Int32) (v3 : AV) (v4 : AV) (h : AH) : Run sc n_X10_areIndependent 41 [aD p0, aI x1, aI x2, v3, v4] none [] h = bI (rOK sc h (aD p0) 12 = true) (bC (Call sc n_X10_at [aD p0, aI x2, aI (nI 0)] h) (fun v z => Run sc n_X10_areIndependent 47 [aD p0, aI x1, aI x2, v3, v4] none (v.toList ++ []) z) (fun E z => some (.inr E, z))) := by
  refine (s_go mt_X10_areIndependent dX10_areIndependent_41 rfl).trans ?_
  refine (s_go mt_X10_areIndependent dX10_areIndependent_42 rfl).trans ?_
  refine (s_go mt_X10_areIndependent dX10_areIndependent_43 rfl).trans ?_
  exact q_cV mt_X10_areIndependent dX10_areIndependent_44 rfl mt_X10_at rfl rfl rfl
theorem e_X10_areIndependent_52 (sc : SC) (p0 : Nat) (x1 : Int32) (x2 : Int32) (v3 : AV) (v4 : AV) (h : AH) : Run sc n_X10_areIndependent 52 [aD p0, aI x1, aI x2, v3, v4] none [] h = Run sc n_X10_areIndependent 57 [aD p0, aI x1, aI x2, v3, v4] none [aI (nI 1)] h := by
  refine (s_go mt_X10_areIndependent dX10_areIndependent_52 rfl).trans ?_
  refine (s_go mt_X10_areIndependent dX10_areIndependent_53 rfl).trans ?_
  exact rfl
theorem e_X10_areIndependent_56 (sc : SC) (p0 : Nat) (x1 : Int32) (x2 : Int32) (v3 : AV) (v4 : AV) (h : AH) : Run sc n_X10_areIndependent 56 [aD p0, aI x1, aI x2, v3, v4] none [] h = Run sc n_X10_areIndependent 57 [aD p0, aI x1, aI x2, v3, v4] none [aI (nI 0)] h := by
  refine (s_go mt_X10_areIndependent dX10_areIndependent_56 rfl).trans ?_
  exact rfl
theorem e_X10_areIndependent_57 (sc : SC) (p0 : Nat) (x1 : Int32) (x2 : Int32) (v3 : AV) (v4 : AV) (y0 : Int32) (h : AH) : Run sc n_X10_areIndependent 57 [aD p0, aI x1, aI x2, v3, v4] none [aI y0] h = bI (rOK sc h (aD p0) 12 = true) (bC (Call sc n_X10_at [aD p0, aI x1, aI (nI 0)] h) (fun v z => Run sc n_X10_areIndependent 64 [aD p0, aI x1, aI x2, aI y0, v4] none (v.toList ++ []) z) (fun E z => some (.inr E, z))) := by
  refine (s_go mt_X10_areIndependent dX10_areIndependent_57 rfl).trans ?_
  refine (s_go mt_X10_areIndependent dX10_areIndependent_58 rfl).trans ?_
  refine (s_go mt_X10_areIndependent dX10_areIndependent_59 rfl).trans ?_
  refine (s_go mt_X10_areIndependent dX10_areIndependent_60 rfl).trans ?_
  exact q_cV mt_X10_areIndependent dX10_areIndependent_61 rfl mt_X10_at rfl rfl rfl
theorem e_X10_areIndependent_69 (sc : SC) (p0 : Nat) (x1 : Int32) (x2 : Int32) (x3 : Int32) (v4 : AV) (h : AH) : Run sc n_X10_areIndependent 69 [aD p0, aI x1, aI x2, aI x3, v4] none [] h = bI (rOK sc h (aD p0) 12 = true) (bC (Call sc n_X10_at [aD p0, aI x2, aI (nI 0)] h) (fun v z => Run sc n_X10_areIndependent 75 [aD p0, aI x1, aI x2, aI x3, v4] none (v.toList ++ []) z) (fun E z => some (.inr E, z))) := by
  refine (s_go mt_X10_areIndependent dX10_areIndependent_69 rfl).trans ?_
  refine (s_go mt_X10_areIndependent dX10_areIndependent_70 rfl).trans ?_
  refine (s_go mt_X10_areIndependent dX10_areIndependent_71 rfl).trans ?_
  exact q_cV mt_X10_areIndependent dX10_areIndependent_72 rfl mt_X10_at rfl rfl rfl
theorem e_X10_areIndependent_80 (sc : SC) (p0 : Nat) (x1 : Int32) (x2 : Int32) (x3 : Int32) (v4 : AV) (h : AH) : Run sc n_X10_areIndependent 80 [aD p0, aI x1, aI x2, aI x3, v4] none [] h = Run sc n_X10_areIndependent 85 [aD p0, aI x1, aI x2, aI x3, v4] none [aI (nI 1)] h := by
  refine (s_go mt_X10_areIndependent dX10_areIndependent_80 rfl).trans ?_
  refine (s_go mt_X10_areIndependent dX10_areIndependent_81 rfl).trans ?_
  exact rfl
theorem e_X10_areIndependent_84 (sc : SC) (p0 : Nat) (x1 : Int32) (x2 : Int32) (x3 : Int32) (v4 : AV) (h : AH) : Run sc n_X10_areIndependent 84 [aD p0, aI x1, aI x2, aI x3, v4] none [] h = Run sc n_X10_areIndependent 85 [aD p0, aI x1, aI x2, aI x3, v4] none [aI (nI 0)] h := by
  refine (s_go mt_X10_areIndependent dX10_areIndependent_84 rfl).trans ?_
  exact rfl
theorem e_X10_areIndependent_85 (sc : SC) (p0 : Nat) (x1 : Int32) (x2 : Int32) (x3 : Int32) (v4 : AV) (y0 : Int32) (h : AH) : Run sc n_X10_areIndependent 85 [aD p0, aI x1, aI x2, aI x3, v4] none [aI y0] h = bI (rOK sc h (aD p0) 12 = true) (bC (Call sc n_X10_writes [aD p0, aI x1] h) (fun v z => Run sc n_X10_areIndependent 92 [aD p0, aI x1, aI x2, aI x3, aI y0] none (v.toList ++ []) z) (fun E z => some (.inr E, z))) := by
  refine (s_go mt_X10_areIndependent dX10_areIndependent_85 rfl).trans ?_
  refine (s_go mt_X10_areIndependent dX10_areIndependent_87 rfl).trans ?_
  refine (s_go mt_X10_areIndependent dX10_areIndependent_88 rfl).trans ?_
  exact q_cV mt_X10_areIndependent dX10_areIndependent_89 rfl mt_X10_writes rfl rfl rfl
theorem e_X10_areIndependent_107 (sc : SC) (p0 : Nat) (x1 : Int32) (x2 : Int32) (x3 : Int32) (x4 : Int32) (h : AH) : Run sc n_X10_areIndependent 107 [aD p0, aI x1, aI x2, aI x3, aI x4] none [] h = bI (rOK sc h (aD p0) 12 = true) (bC (Call sc n_X10_writes [aD p0, aI x2] h) (fun v z => Run sc n_X10_areIndependent 112 [aD p0, aI x1, aI x2, aI x3, aI x4] none (v.toList ++ []) z) (fun E z => some (.inr E, z))) := by
  refine (s_go mt_X10_areIndependent dX10_areIndependent_107 rfl).trans ?_
  refine (s_go mt_X10_areIndependent dX10_areIndependent_108 rfl).trans ?_
  exact q_cV mt_X10_areIndependent dX10_areIndependent_109 rfl mt_X10_writes rfl rfl rfl
theorem e_X10_areIndependent_121 (sc : SC) (p0 : Nat) (x1 : Int32) (x2 : Int32) (x3 : Int32) (x4 : Int32) (h : AH) : Run sc n_X10_areIndependent 121 [aD p0, aI x1, aI x2, aI x3, aI x4] none [] h = Run sc n_X10_areIndependent (if ¬ x3 = 0 then 134 else 125) [aD p0, aI x1, aI x2, aI x3, aI x4] none [] h := by
  refine (s_go mt_X10_areIndependent dX10_areIndependent_121 rfl).trans ?_
  exact q_if mt_X10_areIndependent dX10_areIndependent_122 (fun _ _ _ _ => rfl) rfl
theorem e_X10_areIndependent_125 (sc : SC) (p0 : Nat) (x1 : Int32) (x2 : Int32) (x3 : Int32) (x4 : Int32) (h : AH) : Run sc n_X10_areIndependent 125 [aD p0, aI x1, aI x2, aI x3, aI x4] none [] h = Run sc n_X10_areIndependent (if ¬ x4 = 0 then 134 else 130) [aD p0, aI x1, aI x2, aI x3, aI x4] none [] h := by
  refine (s_go mt_X10_areIndependent dX10_areIndependent_125 rfl).trans ?_
  exact q_if mt_X10_areIndependent dX10_areIndependent_127 (fun _ _ _ _ => rfl) rfl
theorem e_X10_areIndependent_130 (sc : SC) (p0 : Nat) (x1 : Int32) (x2 : Int32) (x3 : Int32) (x4 : Int32) (h : AH) : Run sc n_X10_areIndependent 130 [aD p0, aI x1, aI x2, aI x3, aI x4] none [] h = Run sc n_X10_areIndependent 135 [aD p0, aI x1, aI x2, aI x3, aI x4] none [aI (nI 1)] h := by
  refine (s_go mt_X10_areIndependent dX10_areIndependent_130 rfl).trans ?_
  refine (s_go mt_X10_areIndependent dX10_areIndependent_131 rfl).trans ?_
  exact rfl
theorem e_X10_areIndependent_134 (sc : SC) (p0 : Nat) (x1 : Int32) (x2 : Int32) (x3 : Int32) (x4 : Int32) (h : AH) : Run sc n_X10_areIndependent 134 [aD p0, aI x1, aI x2, aI x3, aI x4] none [] h = Run sc n_X10_areIndependent 135 [aD p0, aI x1, aI x2, aI x3, aI x4] none [aI (nI 0)] h := by
  refine (s_go mt_X10_areIndependent dX10_areIndependent_134 rfl).trans ?_
  exact rfl
theorem e_X10_areIndependent_135 (sc : SC) (p0 : Nat) (x1 : Int32) (x2 : Int32) (x3 : Int32) (x4 : Int32) (y0 : Int32) (h : AH) : Run sc n_X10_areIndependent 135 [aD p0, aI x1, aI x2, aI x3, aI x4] none [aI y0] h = bI (retK (some FieldType.boolean) y0 = true) (some (.inl (some (aI y0)), h)) := by
  exact q_iret mt_X10_areIndependent dX10_areIndependent_135
theorem e_X10_areIndependent_6 (sc : SC) (p0 : Nat) (x1 : Int32) (x2 : Int32) (v3 : AV) (v4 : AV) (y0 : Int32) (h : AH) : Run sc n_X10_areIndependent 6 [aD p0, aI x1, aI x2, v3, v4] none [aI y0] h = bC (Call sc n_X10_isIn [aI y0, aI (nI 5), aI (nI 6)] h) (fun v z => Run sc n_X10_areIndependent 12 [aD p0, aI x1, aI x2, v3, v4] none (v.toList ++ []) z) (fun E z => some (.inr E, z)) := by
  refine (s_go mt_X10_areIndependent dX10_areIndependent_6 rfl).trans ?_
  refine (s_go mt_X10_areIndependent dX10_areIndependent_7 rfl).trans ?_
  exact q_cS mt_X10_areIndependent dX10_areIndependent_9 rfl mt_X10_isIn rfl rfl
theorem e_X10_areIndependent_21 (sc : SC) (p0 : Nat) (x1 : Int32) (x2 : Int32) (v3 : AV) (v4 : AV) (y0 : Int32) (h : AH) : Run sc n_X10_areIndependent 21 [aD p0, aI x1, aI x2, v3, v4] none [aI y0] h = bC (Call sc n_X10_isIn [aI y0, aI (nI 5), aI (nI 6)] h) (fun v z => Run sc n_X10_areIndependent 27 [aD p0, aI x1, aI x2, v3, v4] none (v.toList ++ []) z) (fun E z => some (.inr E, z)) := by
  refine (s_go mt_X10_areIndependent dX10_areIndependent_21 rfl).trans ?_
  refine (s_go mt_X10_areIndependent dX10_areIndependent_22 rfl).trans ?_
  exact q_cS mt_X10_areIndependent dX10_areIndependent_24 rfl mt_X10_isIn rfl rfl
theorem e_X10_areIndependent_36 (sc : SC) (p0 : Nat) (x1 : Int32) (x2 : Int32) (v3 : AV) (v4 : AV) (y0 : Int32) (h : AH) : Run sc n_X10_areIndependent 36 [aD p0, aI x1, aI x2, v3, v4] none [aI y0] h = Run sc n_X10_areIndependent (if y0 = (nI 6) then 52 else 41) [aD p0, aI x1, aI x2, v3, v4] none [] h := by
  refine (s_go mt_X10_areIndependent dX10_areIndependent_36 rfl).trans ?_
  exact q_icmp mt_X10_areIndependent dX10_areIndependent_38 (fun _ _ _ _ => rfl) rfl
theorem e_X10_areIndependent_47 (sc : SC) (p0 : Nat) (x1 : Int32) (x2 : Int32) (v3 : AV) (v4 : AV) (y0 : Int32) (h : AH) : Run sc n_X10_areIndependent 47 [aD p0, aI x1, aI x2, v3, v4] none [aI y0] h = Run sc n_X10_areIndependent (if ¬ y0 = (nI 6) then 56 else 52) [aD p0, aI x1, aI x2, v3, v4] none [] h := by
  refine (s_go mt_X10_areIndependent dX10_areIndependent_47 rfl).trans ?_
  exact q_icmp mt_X10_areIndependent dX10_areIndependent_49 (fun _ _ _ _ => rfl) rfl
theorem e_X10_areIndependent_64 (sc : SC) (p0 : Nat) (x1 : Int32) (x2 : Int32) (x3 : Int32) (v4 : AV) (y0 : Int32) (h : AH) : Run sc n_X10_areIndependent 64 [aD p0, aI x1, aI x2, aI x3, v4] none [aI y0] h = Run sc n_X10_areIndependent (if ¬ y0 = (nI 7) then 84 else 69) [aD p0, aI x1, aI x2, aI x3, v4] none [] h := by
  refine (s_go mt_X10_areIndependent dX10_areIndependent_64 rfl).trans ?_
  exact q_icmp mt_X10_areIndependent dX10_areIndependent_66 (fun _ _ _ _ => rfl) rfl
theorem e_X10_areIndependent_75 (sc : SC) (p0 : Nat) (x1 : Int32) (x2 : Int32) (x3 : Int32) (v4 : AV) (y0 : Int32) (h : AH) : Run sc n_X10_areIndependent 75 [aD p0, aI x1, aI x2, aI x3, v4] none [aI y0] h = Run sc n_X10_areIndependent (if ¬ y0 = (nI 7) then 84 else 80) [aD p0, aI x1, aI x2, aI x3, v4] none [] h := by
  refine (s_go mt_X10_areIndependent dX10_areIndependent_75 rfl).trans ?_
  exact q_icmp mt_X10_areIndependent dX10_areIndependent_77 (fun _ _ _ _ => rfl) rfl
theorem e_X10_areIndependent_92 (sc : SC) (p0 : Nat) (x1 : Int32) (x2 : Int32) (x3 : Int32) (x4 : Int32) (y0 : Int32) (h : AH) : Run sc n_X10_areIndependent 92 [aD p0, aI x1, aI x2, aI x3, aI x4] none [aI y0] h = bI (rOK sc h (aD p0) 12 = true) (bC (Call sc n_X10_reads [aD p0, aI x2] h) (fun v z => Run sc n_X10_areIndependent 97 [aD p0, aI x1, aI x2, aI x3, aI x4] none (v.toList ++ [aI y0]) z) (fun E z => some (.inr E, z))) := by
  refine (s_go mt_X10_areIndependent dX10_areIndependent_92 rfl).trans ?_
  refine (s_go mt_X10_areIndependent dX10_areIndependent_93 rfl).trans ?_
  exact q_cV mt_X10_areIndependent dX10_areIndependent_94 rfl mt_X10_reads rfl rfl rfl
theorem e_X10_areIndependent_112 (sc : SC) (p0 : Nat) (x1 : Int32) (x2 : Int32) (x3 : Int32) (x4 : Int32) (y0 : Int32) (h : AH) : Run sc n_X10_areIndependent 112 [aD p0, aI x1, aI x2, aI x3, aI x4] none [aI y0] h = bI (rOK sc h (aD p0) 12 = true) (bC (Call sc n_X10_reads [aD p0, aI x1] h) (fun v z => Run sc n_X10_areIndependent 117 [aD p0, aI x1, aI x2, aI x3, aI x4] none (v.toList ++ [aI y0]) z) (fun E z => some (.inr E, z))) := by
  refine (s_go mt_X10_areIndependent dX10_areIndependent_112 rfl).trans ?_
  refine (s_go mt_X10_areIndependent dX10_areIndependent_113 rfl).trans ?_
  exact q_cV mt_X10_areIndependent dX10_areIndependent_114 rfl mt_X10_reads rfl rfl rfl
theorem e_X10_areIndependent_12 (sc : SC) (p0 : Nat) (x1 : Int32) (x2 : Int32) (v3 : AV) (v4 : AV) (y0 : Int32) (h : AH) : Run sc n_X10_areIndependent 12 [aD p0, aI x1, aI x2, v3, v4] none [aI y0] h = Run sc n_X10_areIndependent (if y0 = 0 then 56 else 15) [aD p0, aI x1, aI x2, v3, v4] none [] h := by
  exact q_if mt_X10_areIndependent dX10_areIndependent_12 (fun _ _ _ _ => rfl) rfl
theorem e_X10_areIndependent_27 (sc : SC) (p0 : Nat) (x1 : Int32) (x2 : Int32) (v3 : AV) (v4 : AV) (y0 : Int32) (h : AH) : Run sc n_X10_areIndependent 27 [aD p0, aI x1, aI x2, v3, v4] none [aI y0] h = Run sc n_X10_areIndependent (if y0 = 0 then 56 else 30) [aD p0, aI x1, aI x2, v3, v4] none [] h := by
  exact q_if mt_X10_areIndependent dX10_areIndependent_27 (fun _ _ _ _ => rfl) rfl
theorem e_X10_areIndependent_97 (sc : SC) (p0 : Nat) (x1 : Int32) (x2 : Int32) (x3 : Int32) (x4 : Int32) (y0 : Int32) (y1 : Int32) (h : AH) : Run sc n_X10_areIndependent 97 [aD p0, aI x1, aI x2, aI x3, aI x4] none [aI y1, aI y0] h = bI (rOK sc h (aD p0) 12 = true) (bC (Call sc n_X10_writes [aD p0, aI x2] h) (fun v z => Run sc n_X10_areIndependent 102 [aD p0, aI x1, aI x2, aI x3, aI x4] none (v.toList ++ [aI y1, aI y0]) z) (fun E z => some (.inr E, z))) := by
  refine (s_go mt_X10_areIndependent dX10_areIndependent_97 rfl).trans ?_
  refine (s_go mt_X10_areIndependent dX10_areIndependent_98 rfl).trans ?_
  exact q_cV mt_X10_areIndependent dX10_areIndependent_99 rfl mt_X10_writes rfl rfl rfl
theorem e_X10_areIndependent_117 (sc : SC) (p0 : Nat) (x1 : Int32) (x2 : Int32) (x3 : Int32) (x4 : Int32) (y0 : Int32) (y1 : Int32) (h : AH) : Run sc n_X10_areIndependent 117 [aD p0, aI x1, aI x2, aI x3, aI x4] none [aI y1, aI y0] h = Run sc n_X10_areIndependent (if ¬ (y0 &&& y1) = 0 then 134 else 121) [aD p0, aI x1, aI x2, aI x3, aI x4] none [] h := by
  refine (s_go mt_X10_areIndependent dX10_areIndependent_117 rfl).trans ?_
  exact q_if mt_X10_areIndependent dX10_areIndependent_118 (fun _ _ _ _ => rfl) rfl
theorem e_X10_areIndependent_102 (sc : SC) (p0 : Nat) (x1 : Int32) (x2 : Int32) (x3 : Int32) (x4 : Int32) (y0 : Int32) (y1 : Int32) (y2 : Int32) (h : AH) : Run sc n_X10_areIndependent 102 [aD p0, aI x1, aI x2, aI x3, aI x4] none [aI y2, aI y1, aI y0] h = Run sc n_X10_areIndependent (if ¬ (y0 &&& (y1 ||| y2)) = 0 then 134 else 107) [aD p0, aI x1, aI x2, aI x3, aI x4] none [] h := by
  refine (s_go mt_X10_areIndependent dX10_areIndependent_102 rfl).trans ?_
  refine (s_go mt_X10_areIndependent dX10_areIndependent_103 rfl).trans ?_
  exact q_if mt_X10_areIndependent dX10_areIndependent_104 (fun _ _ _ _ => rfl) rfl
/-! BranchSlotFillerModel.isIndependent(II)Z -/
theorem e_X10_isIndependent_0 (sc : SC) (p0 : Nat) (x1 : Int32) (x2 : Int32) (h : AH) : Run sc n_X10_isIndependent 0 [aD p0, aI x1, aI x2] none [] h = bI (rOK sc h (aD p0) 12 = true) (bC (Call sc n_X10_isEntry [aD p0, aI x1] h) (fun v z => Run sc n_X10_isIndependent 6 [aD p0, aI x1, aI x2] none (v.toList ++ [aD p0]) z) (fun E z => some (.inr E, z))) := by
  refine (s_go mt_X10_isIndependent dX10_isIndependent_0 rfl).trans ?_
  refine (s_go mt_X10_isIndependent dX10_isIndependent_1 rfl).trans ?_
  refine (s_go mt_X10_isIndependent dX10_isIndependent_2 rfl).trans ?_
  exact q_cV mt_X10_isIndependent dX10_isIndependent_3 rfl mt_X10_isEntry rfl rfl rfl
theorem e_X10_isIndependent_9 (sc : SC) (p0 : Nat) (x1 : Int32) (x2 : Int32) (q0 : Nat) (h : AH) : Run sc n_X10_isIndependent 9 [aD p0, aI x1, aI x2] none [aD q0] h = bI (rOK sc h (aD p0) 12 = true) (bC (Call sc n_X10_isEntry [aD p0, aI x2] h) (fun v z => Run sc n_X10_isIndependent 14 [aD p0, aI x1, aI x2] none (v.toList ++ [aD q0]) z) (fun E z => some (.inr E, z))) := by
  refine (s_go mt_X10_isIndependent dX10_isIndependent_9 rfl).trans ?_
  refine (s_go mt_X10_isIndependent dX10_isIndependent_10 rfl).trans ?_
  exact q_cV mt_X10_isIndependent dX10_isIndependent_11 rfl mt_X10_isEntry rfl rfl rfl
theorem e_X10_isIndependent_17 (sc : SC) (p0 : Nat) (x1 : Int32) (x2 : Int32) (q0 : Nat) (h : AH) : Run sc n_X10_isIndependent 17 [aD p0, aI x1, aI x2] none [aD q0] h = Run sc n_X10_isIndependent 22 [aD p0, aI x1, aI x2] none [aI (nI 0), aD q0] h := by
  refine (s_go mt_X10_isIndependent dX10_isIndependent_17 rfl).trans ?_
  refine (s_go mt_X10_isIndependent dX10_isIndependent_18 rfl).trans ?_
  exact rfl
theorem e_X10_isIndependent_21 (sc : SC) (p0 : Nat) (x1 : Int32) (x2 : Int32) (q0 : Nat) (h : AH) : Run sc n_X10_isIndependent 21 [aD p0, aI x1, aI x2] none [aD q0] h = Run sc n_X10_isIndependent 22 [aD p0, aI x1, aI x2] none [aI (nI 1), aD q0] h := by
  refine (s_go mt_X10_isIndependent dX10_isIndependent_21 rfl).trans ?_
  exact rfl
theorem e_X10_isIndependent_22 (sc : SC) (p0 : Nat) (x1 : Int32) (x2 : Int32) (q0 : Nat) (y1 : Int32) (h : AH) : Run sc n_X10_isIndependent 22 [aD p0, aI x1, aI x2] none [aI y1, aD q0] h = bO (putF h q0 12 0 0 (aI y1)) (fun z => Run sc n_X10_isIndependent 25 [aD p0, aI x1, aI x2] none [] z) := by
  exact q_putfield mt_X10_isIndependent dX10_isIndependent_22 rfl rfl rfl rfl
theorem e_X10_isIndependent_32 (sc : SC) (p0 : Nat) (x1 : Int32) (x2 : Int32) (h : AH) : Run sc n_X10_isIndependent 32 [aD p0, aI x1, aI x2] none [] h = bI (rOK sc h (aD p0) 12 = true) (bC (Call sc n_X10_areIndependent [aD p0, aI x1, aI x2] h) (fun v z => Run sc n_X10_isIndependent 38 [aD p0, aI x1, aI x2] none (v.toList ++ []) z) (fun E z => some (.inr E, z))) := by
  refine (s_go mt_X10_isIndependent dX10_isIndependent_32 rfl).trans ?_
  refine (s_go mt_X10_isIndependent dX10_isIndependent_33 rfl).trans ?_
  refine (s_go mt_X10_isIndependent dX10_isIndependent_34 rfl).trans ?_
  exact q_cV mt_X10_isIndependent dX10_isIndependent_35 rfl mt_X10_areIndependent rfl rfl rfl
theorem e_X10_isIndependent_41 (sc : SC) (p0 : Nat) (x1 : Int32) (x2 : Int32) (h : AH) : Run sc n_X10_isIndependent 41 [aD p0, aI x1, aI x2] none [] h = Run sc n_X10_isIndependent 46 [aD p0, aI x1, aI x2] none [aI (nI 1)] h := by
  refine (s_go mt_X10_isIndependent dX10_isIndependent_41 rfl).trans ?_
  refine (s_go mt_X10_isIndependent dX10_isIndependent_42 rfl).trans ?_
  exact rfl
theorem e_X10_isIndependent_45 (sc : SC) (p0 : Nat) (x1 : Int32) (x2 : Int32) (h : AH) : Run sc n_X10_isIndependent 45 [aD p0, aI x1, aI x2] none [] h = Run sc n_X10_isIndependent 46 [aD p0, aI x1, aI x2] none [aI (nI 0)] h := by
  refine (s_go mt_X10_isIndependent dX10_isIndependent_45 rfl).trans ?_
  exact rfl
theorem e_X10_isIndependent_46 (sc : SC) (p0 : Nat) (x1 : Int32) (x2 : Int32) (y0 : Int32) (h : AH) : Run sc n_X10_isIndependent 46 [aD p0, aI x1, aI x2] none [aI y0] h = bI (retK (some FieldType.boolean) y0 = true) (some (.inl (some (aI y0)), h)) := by
  exact q_iret mt_X10_isIndependent dX10_isIndependent_46
theorem e_X10_isIndependent_6 (sc : SC) (p0 : Nat) (x1 : Int32) (x2 : Int32) (q0 : Nat) (y1 : Int32) (h : AH) : Run sc n_X10_isIndependent 6 [aD p0, aI x1, aI x2] none [aI y1, aD q0] h = Run sc n_X10_isIndependent (if y1 = 0 then 21 else 9) [aD p0, aI x1, aI x2] none [aD q0] h := by
  exact q_if mt_X10_isIndependent dX10_isIndependent_6 (fun _ _ _ _ => rfl) rfl
theorem e_X10_isIndependent_14 (sc : SC) (p0 : Nat) (x1 : Int32) (x2 : Int32) (q0 : Nat) (y1 : Int32) (h : AH) : Run sc n_X10_isIndependent 14 [aD p0, aI x1, aI x2] none [aI y1, aD q0] h = Run sc n_X10_isIndependent (if y1 = 0 then 21 else 17) [aD p0, aI x1, aI x2] none [aD q0] h := by
  exact q_if mt_X10_isIndependent dX10_isIndependent_14 (fun _ _ _ _ => rfl) rfl
theorem e_X10_isIndependent_25 (sc : SC) (p0 : Nat) (x1 : Int32) (x2 : Int32) (h : AH) : Run sc n_X10_isIndependent 25 [aD p0, aI x1, aI x2] none [] h = bF (getF sc h (aD p0) 12 0) (fun z => Run sc n_X10_isIndependent 29 [aD p0, aI x1, aI x2] none [z] h) := by
  refine (s_go mt_X10_isIndependent dX10_isIndependent_25 rfl).trans ?_
  exact q_getfield mt_X10_isIndependent dX10_isIndependent_26 rfl
theorem e_X10_isIndependent_38 (sc : SC) (p0 : Nat) (x1 : Int32) (x2 : Int32) (y0 : Int32) (h : AH) : Run sc n_X10_isIndependent 38 [aD p0, aI x1, aI x2] none [aI y0] h = Run sc n_X10_isIndependent (if y0 = 0 then 45 else 41) [aD p0, aI x1, aI x2] none [] h := by
  exact q_if mt_X10_isIndependent dX10_isIndependent_38 (fun _ _ _ _ => rfl) rfl
theorem e_X10_isIndependent_29 (sc : SC) (p0 : Nat) (x1 : Int32) (x2 : Int32) (y0 : Int32) (h : AH) : Run sc n_X10_isIndependent 29 [aD p0, aI x1, aI x2] none [aI y0] h = Run sc n_X10_isIndependent (if ¬ y0 = 0 then 45 else 32) [aD p0, aI x1, aI x2] none [] h := by
  exact q_if mt_X10_isIndependent dX10_isIndependent_29 (fun _ _ _ _ => rfl) rfl
/-! BranchSlotFillerModel.beforeCandidate(I)I -/
theorem e_X10_beforeCandidate_0 (sc : SC) (p0 : Nat) (x1 : Int32) (v2 : AV) (v3 : AV) (v4 : AV) (v5 : AV) (h : AH) : Run sc n_X10_beforeCandidate 0 [aD p0, aI x1, v2, v3, v4, v5] none [] h = Run sc n_X10_beforeCandidate 4 [aD p0, aI x1, aI (x1 - (nI 1)), v3, v4, v5] none [] h := by
  refine (s_go mt_X10_beforeCandidate dX10_beforeCandidate_0 rfl).trans ?_
  refine (s_go mt_X10_beforeCandidate dX10_beforeCandidate_1 rfl).trans ?_
  refine (s_go mt_X10_beforeCandidate dX10_beforeCandidate_2 rfl).trans ?_
  refine (s_go mt_X10_beforeCandidate dX10_beforeCandidate_3 rfl).trans ?_
  exact rfl
theorem e_X10_beforeCandidate_4 (sc : SC) (p0 : Nat) (x1 : Int32) (x2 : Int32) (v3 : AV) (v4 : AV) (v5 : AV) (h : AH) : Run sc n_X10_beforeCandidate 4 [aD p0, aI x1, aI x2, v3, v4, v5] none [] h = Run sc n_X10_beforeCandidate (if x2 < 0 then 119 else 8) [aD p0, aI x1, aI x2, v3, v4, v5] none [] h := by
  refine (s_go mt_X10_beforeCandidate dX10_beforeCandidate_4 rfl).trans ?_
  exact q_if mt_X10_beforeCandidate dX10_beforeCandidate_5 (fun _ _ _ _ => rfl) rfl
theorem e_X10_beforeCandidate_8 (sc : SC) (p0 : Nat) (x1 : Int32) (x2 : Int32) (v3 : AV) (v4 : AV) (v5 : AV) (h : AH) : Run sc n_X10_beforeCandidate 8 [aD p0, aI x1, aI x2, v3, v4, v5] none [] h = bI (rOK sc h (aD p0) 12 = true) (bC (Call sc n_X10_targeted [aD p0, aI x1] h) (fun v z => Run sc n_X10_beforeCandidate 13 [aD p0, aI x1, aI x2, v3, v4, v5] none (v.toList ++ []) z) (fun E z => some (.inr E, z))) := by
  refine (s_go mt_X10_beforeCandidate dX10_beforeCandidate_8 rfl).trans ?_
  refine (s_go mt_X10_beforeCandidate dX10_beforeCandidate_9 rfl).trans ?_
  exact q_cV mt_X10_beforeCandidate dX10_beforeCandidate_10 rfl mt_X10_targeted rfl rfl rfl
theorem e_X10_beforeCandidate_16 (sc : SC) (p0 : Nat) (x1 : Int32) (x2 : Int32) (v3 : AV) (v4 : AV) (v5 : AV) (h : AH) : Run sc n_X10_beforeCandidate 16 [aD p0, aI x1, aI x2, v3, v4, v5] none [] h = bI (rOK sc h (aD p0) 12 = true) (bC (Call sc n_X10_at [aD p0, aI x2, aI (nI 0)] h) (fun v z => Run sc n_X10_beforeCandidate 22 [aD p0, aI x1, aI x2, v3, v4, v5] none (v.toList ++ []) z) (fun E z => some (.inr E, z))) := by
  refine (s_go mt_X10_beforeCandidate dX10_beforeCandidate_16 rfl).trans ?_
  refine (s_go mt_X10_beforeCandidate dX10_beforeCandidate_17 rfl).trans ?_
  refine (s_go mt_X10_beforeCandidate dX10_beforeCandidate_18 rfl).trans ?_
  exact q_cV mt_X10_beforeCandidate dX10_beforeCandidate_19 rfl mt_X10_at rfl rfl rfl
theorem e_X10_beforeCandidate_30 (sc : SC) (p0 : Nat) (x1 : Int32) (x2 : Int32) (x3 : Int32) (v4 : AV) (v5 : AV) (h : AH) : Run sc n_X10_beforeCandidate 30 [aD p0, aI x1, aI x2, aI x3, v4, v5] none [] h = bI (rOK sc h (aD p0) 12 = true) (bC (Call sc n_X10_isSlot [aD p0, aI x2] h) (fun v z => Run sc n_X10_beforeCandidate 35 [aD p0, aI x1, aI x2, aI x3, v4, v5] none (v.toList ++ []) z) (fun E z => some (.inr E, z))) := by
  refine (s_go mt_X10_beforeCandidate dX10_beforeCandidate_30 rfl).trans ?_
  refine (s_go mt_X10_beforeCandidate dX10_beforeCandidate_31 rfl).trans ?_
  exact q_cV mt_X10_beforeCandidate dX10_beforeCandidate_32 rfl mt_X10_isSlot rfl rfl rfl
theorem e_X10_beforeCandidate_38 (sc : SC) (p0 : Nat) (x1 : Int32) (x2 : Int32) (x3 : Int32) (v4 : AV) (v5 : AV) (h : AH) : Run sc n_X10_beforeCandidate 38 [aD p0, aI x1, aI x2, aI x3, v4, v5] none [] h = Run sc n_X10_beforeCandidate (if ¬ x3 = (nI 11) then 46 else 44) [aD p0, aI x1, aI x2, aI x3, v4, v5] none [] h := by
  refine (s_go mt_X10_beforeCandidate dX10_beforeCandidate_38 rfl).trans ?_
  refine (s_go mt_X10_beforeCandidate dX10_beforeCandidate_39 rfl).trans ?_
  exact q_icmp mt_X10_beforeCandidate dX10_beforeCandidate_41 (fun _ _ _ _ => rfl) rfl
theorem e_X10_beforeCandidate_44 (sc : SC) (p0 : Nat) (x1 : Int32) (x2 : Int32) (x3 : Int32) (v4 : AV) (v5 : AV) (h : AH) : Run sc n_X10_beforeCandidate 44 [aD p0, aI x1, aI x2, aI x3, v4, v5] none [] h = some (.inl (some (aI (-1))), h) := by
  refine (s_go mt_X10_beforeCandidate dX10_beforeCandidate_44 rfl).trans ?_
  exact q_ret (c := (some (aI (-1)), h)) mt_X10_beforeCandidate dX10_beforeCandidate_45 rfl
theorem e_X10_beforeCandidate_46 (sc : SC) (p0 : Nat) (x1 : Int32) (x2 : Int32) (x3 : Int32) (v4 : AV) (v5 : AV) (h : AH) : Run sc n_X10_beforeCandidate 46 [aD p0, aI x1, aI x2, aI x3, v4, v5] none [] h = Run sc n_X10_beforeCandidate (if x3 = 0 then 54 else 50) [aD p0, aI x1, aI x2, aI x3, v4, v5] none [] h := by
  refine (s_go mt_X10_beforeCandidate dX10_beforeCandidate_46 rfl).trans ?_
  exact q_if mt_X10_beforeCandidate dX10_beforeCandidate_47 (fun _ _ _ _ => rfl) rfl
theorem e_X10_beforeCandidate_50 (sc : SC) (p0 : Nat) (x1 : Int32) (x2 : Int32) (x3 : Int32) (v4 : AV) (v5 : AV) (h : AH) : Run sc n_X10_beforeCandidate 50 [aD p0, aI x1, aI x2, aI x3, v4, v5] none [] h = Run sc n_X10_beforeCandidate 55 [aD p0, aI x1, aI x2, aI x3, v4, v5] none [aI (nI 1)] h := by
  refine (s_go mt_X10_beforeCandidate dX10_beforeCandidate_50 rfl).trans ?_
  refine (s_go mt_X10_beforeCandidate dX10_beforeCandidate_51 rfl).trans ?_
  exact rfl
theorem e_X10_beforeCandidate_54 (sc : SC) (p0 : Nat) (x1 : Int32) (x2 : Int32) (x3 : Int32) (v4 : AV) (v5 : AV) (h : AH) : Run sc n_X10_beforeCandidate 54 [aD p0, aI x1, aI x2, aI x3, v4, v5] none [] h = Run sc n_X10_beforeCandidate 55 [aD p0, aI x1, aI x2, aI x3, v4, v5] none [aI (nI 0)] h := by
  refine (s_go mt_X10_beforeCandidate dX10_beforeCandidate_54 rfl).trans ?_
  exact rfl
theorem e_X10_beforeCandidate_55 (sc : SC) (p0 : Nat) (x1 : Int32) (x2 : Int32) (x3 : Int32) (v4 : AV) (v5 : AV) (y0 : Int32) (h : AH) : Run sc n_X10_beforeCandidate 55 [aD p0, aI x1, aI x2, aI x3, v4, v5] none [aI y0] h = Run sc n_X10_beforeCandidate 62 [aD p0, aI x1, aI x2, aI x3, aI y0, aI (x2 + (nI 1))] none [] h := by
  refine (s_go mt_X10_beforeCandidate dX10_beforeCandidate_55 rfl).trans ?_
  refine (s_go mt_X10_beforeCandidate dX10_beforeCandidate_57 rfl).trans ?_
  refine (s_go mt_X10_beforeCandidate dX10_beforeCandidate_58 rfl).trans ?_
  refine (s_go mt_X10_beforeCandidate dX10_beforeCandidate_59 rfl).trans ?_
  refine (s_go mt_X10_beforeCandidate dX10_beforeCandidate_60 rfl).trans ?_
  exact rfl
theorem e_X10_beforeCandidate_62 (sc : SC) (p0 : Nat) (x1 : Int32) (x2 : Int32) (x3 : Int32) (x4 : Int32) (x5 : Int32) (h : AH) : Run sc n_X10_beforeCandidate 62 [aD p0, aI x1, aI x2, aI x3, aI x4, aI x5] none [] h = Run sc n_X10_beforeCandidate (if x1 < x5 then 96 else 68) [aD p0, aI x1, aI x2, aI x3, aI x4, aI x5] none [] h := by
  refine (s_go mt_X10_beforeCandidate dX10_beforeCandidate_62 rfl).trans ?_
  refine (s_go mt_X10_beforeCandidate dX10_beforeCandidate_64 rfl).trans ?_
  exact q_icmp mt_X10_beforeCandidate dX10_beforeCandidate_65 (fun _ _ _ _ => rfl) rfl
theorem e_X10_beforeCandidate_68 (sc : SC) (p0 : Nat) (x1 : Int32) (x2 : Int32) (x3 : Int32) (x4 : Int32) (x5 : Int32) (h : AH) : Run sc n_X10_beforeCandidate 68 [aD p0, aI x1, aI x2, aI x3, aI x4, aI x5] none [] h = Run sc n_X10_beforeCandidate (if x4 = 0 then 87 else 73) [aD p0, aI x1, aI x2, aI x3, aI x4, aI x5] none [] h := by
  refine (s_go mt_X10_beforeCandidate dX10_beforeCandidate_68 rfl).trans ?_
  exact q_if mt_X10_beforeCandidate dX10_beforeCandidate_70 (fun _ _ _ _ => rfl) rfl
theorem e_X10_beforeCandidate_73 (sc : SC) (p0 : Nat) (x1 : Int32) (x2 : Int32) (x3 : Int32) (x4 : Int32) (x5 : Int32) (h : AH) : Run sc n_X10_beforeCandidate 73 [aD p0, aI x1, aI x2, aI x3, aI x4, aI x5] none [] h = bI (rOK sc h (aD p0) 12 = true) (bC (Call sc n_X10_areIndependent [aD p0, aI x2, aI x5] h) (fun v z => Run sc n_X10_beforeCandidate 80 [aD p0, aI x1, aI x2, aI x3, aI x4, aI x5] none (v.toList ++ []) z) (fun E z => some (.inr E, z))) := by
  refine (s_go mt_X10_beforeCandidate dX10_beforeCandidate_73 rfl).trans ?_
  refine (s_go mt_X10_beforeCandidate dX10_beforeCandidate_74 rfl).trans ?_
  refine (s_go mt_X10_beforeCandidate dX10_beforeCandidate_75 rfl).trans ?_
  exact q_cV mt_X10_beforeCandidate dX10_beforeCandidate_77 rfl mt_X10_areIndependent rfl rfl rfl
theorem e_X10_beforeCandidate_83 (sc : SC) (p0 : Nat) (x1 : Int32) (x2 : Int32) (x3 : Int32) (x4 : Int32) (x5 : Int32) (h : AH) : Run sc n_X10_beforeCandidate 83 [aD p0, aI x1, aI x2, aI x3, aI x4, aI x5] none [] h = Run sc n_X10_beforeCandidate 88 [aD p0, aI x1, aI x2, aI x3, aI x4, aI x5] none [aI (nI 1)] h := by
  refine (s_go mt_X10_beforeCandidate dX10_beforeCandidate_83 rfl).trans ?_
  refine (s_go mt_X10_beforeCandidate dX10_beforeCandidate_84 rfl).trans ?_
  exact rfl
theorem e_X10_beforeCandidate_87 (sc : SC) (p0 : Nat) (x1 : Int32) (x2 : Int32) (x3 : Int32) (x4 : Int32) (x5 : Int32) (h : AH) : Run sc n_X10_beforeCandidate 87 [aD p0, aI x1, aI x2, aI x3, aI x4, aI x5] none [] h = Run sc n_X10_beforeCandidate 88 [aD p0, aI x1, aI x2, aI x3, aI x4, aI x5] none [aI (nI 0)] h := by
  refine (s_go mt_X10_beforeCandidate dX10_beforeCandidate_87 rfl).trans ?_
  exact rfl
theorem e_X10_beforeCandidate_88 (sc : SC) (p0 : Nat) (x1 : Int32) (x2 : Int32) (x3 : Int32) (x4 : Int32) (x5 : Int32) (y0 : Int32) (h : AH) : Run sc n_X10_beforeCandidate 88 [aD p0, aI x1, aI x2, aI x3, aI x4, aI x5] none [aI y0] h = Run sc n_X10_beforeCandidate 62 [aD p0, aI x1, aI x2, aI x3, aI y0, aI (x5 + nI 1)] none [] h := by
  refine (s_go mt_X10_beforeCandidate dX10_beforeCandidate_88 rfl).trans ?_
  refine (s_go mt_X10_beforeCandidate dX10_beforeCandidate_90 rfl).trans ?_
  refine (s_go mt_X10_beforeCandidate dX10_beforeCandidate_93 rfl).trans ?_
  exact rfl
theorem e_X10_beforeCandidate_96 (sc : SC) (p0 : Nat) (x1 : Int32) (x2 : Int32) (x3 : Int32) (x4 : Int32) (x5 : Int32) (h : AH) : Run sc n_X10_beforeCandidate 96 [aD p0, aI x1, aI x2, aI x3, aI x4, aI x5] none [] h = Run sc n_X10_beforeCandidate (if x4 = 0 then 103 else 101) [aD p0, aI x1, aI x2, aI x3, aI x4, aI x5] none [] h := by
  refine (s_go mt_X10_beforeCandidate dX10_beforeCandidate_96 rfl).trans ?_
  exact q_if mt_X10_beforeCandidate dX10_beforeCandidate_98 (fun _ _ _ _ => rfl) rfl
theorem e_X10_beforeCandidate_101 (sc : SC) (p0 : Nat) (x1 : Int32) (x2 : Int32) (x3 : Int32) (x4 : Int32) (x5 : Int32) (h : AH) : Run sc n_X10_beforeCandidate 101 [aD p0, aI x1, aI x2, aI x3, aI x4, aI x5] none [] h = some (.inl (some (aI x2)), h) := by
  refine (s_go mt_X10_beforeCandidate dX10_beforeCandidate_101 rfl).trans ?_
  exact q_ret (c := (some (aI x2), h)) mt_X10_beforeCandidate dX10_beforeCandidate_102 rfl
theorem e_X10_beforeCandidate_103 (sc : SC) (p0 : Nat) (x1 : Int32) (x2 : Int32) (x3 : Int32) (x4 : Int32) (x5 : Int32) (h : AH) : Run sc n_X10_beforeCandidate 103 [aD p0, aI x1, aI x2, aI x3, aI x4, aI x5] none [] h = bI (rOK sc h (aD p0) 12 = true) (bC (Call sc n_X10_targeted [aD p0, aI x2] h) (fun v z => Run sc n_X10_beforeCandidate 108 [aD p0, aI x1, aI x2, aI x3, aI x4, aI x5] none (v.toList ++ []) z) (fun E z => some (.inr E, z))) := by
  refine (s_go mt_X10_beforeCandidate dX10_beforeCandidate_103 rfl).trans ?_
  refine (s_go mt_X10_beforeCandidate dX10_beforeCandidate_104 rfl).trans ?_
  exact q_cV mt_X10_beforeCandidate dX10_beforeCandidate_105 rfl mt_X10_targeted rfl rfl rfl
theorem e_X10_beforeCandidate_111 (sc : SC) (p0 : Nat) (x1 : Int32) (x2 : Int32) (x3 : Int32) (x4 : Int32) (x5 : Int32) (h : AH) : Run sc n_X10_beforeCandidate 111 [aD p0, aI x1, aI x2, aI x3, aI x4, aI x5] none [] h = some (.inl (some (aI (-1))), h) := by
  refine (s_go mt_X10_beforeCandidate dX10_beforeCandidate_111 rfl).trans ?_
  exact q_ret (c := (some (aI (-1)), h)) mt_X10_beforeCandidate dX10_beforeCandidate_112 rfl
theorem e_X10_beforeCandidate_113 (sc : SC) (p0 : Nat) (x1 : Int32) (x2 : Int32) (x3 : Int32) (x4 : Int32) (x5 : Int32) (h : AH) : Run sc n_X10_beforeCandidate 113 [aD p0, aI x1, aI x2, aI x3, aI x4, aI x5] none [] h = Run sc n_X10_beforeCandidate 4 [aD p0, aI x1, aI (x2 + (-1)), aI x3, aI x4, aI x5] none [] h := by
  refine (s_go mt_X10_beforeCandidate dX10_beforeCandidate_113 rfl).trans ?_
  refine (s_go mt_X10_beforeCandidate dX10_beforeCandidate_116 rfl).trans ?_
  exact rfl
theorem e_X10_beforeCandidate_119 (sc : SC) (p0 : Nat) (x1 : Int32) (x2 : Int32) (v3 : AV) (v4 : AV) (v5 : AV) (h : AH) : Run sc n_X10_beforeCandidate 119 [aD p0, aI x1, aI x2, v3, v4, v5] none [] h = some (.inl (some (aI (-1))), h) := by
  refine (s_go mt_X10_beforeCandidate dX10_beforeCandidate_119 rfl).trans ?_
  exact q_ret (c := (some (aI (-1)), h)) mt_X10_beforeCandidate dX10_beforeCandidate_120 rfl
theorem e_X10_beforeCandidate_13 (sc : SC) (p0 : Nat) (x1 : Int32) (x2 : Int32) (v3 : AV) (v4 : AV) (v5 : AV) (y0 : Int32) (h : AH) : Run sc n_X10_beforeCandidate 13 [aD p0, aI x1, aI x2, v3, v4, v5] none [aI y0] h = Run sc n_X10_beforeCandidate (if ¬ y0 = 0 then 119 else 16) [aD p0, aI x1, aI x2, v3, v4, v5] none [] h := by
  exact q_if mt_X10_beforeCandidate dX10_beforeCandidate_13 (fun _ _ _ _ => rfl) rfl
theorem e_X10_beforeCandidate_22 (sc : SC) (p0 : Nat) (x1 : Int32) (x2 : Int32) (v3 : AV) (v4 : AV) (v5 : AV) (y0 : Int32) (h : AH) : Run sc n_X10_beforeCandidate 22 [aD p0, aI x1, aI x2, v3, v4, v5] none [aI y0] h = bC (Call sc n_X10_isBranch [aI y0] h) (fun v z => Run sc n_X10_beforeCandidate 27 [aD p0, aI x1, aI x2, aI y0, v4, v5] none (v.toList ++ []) z) (fun E z => some (.inr E, z)) := by
  refine (s_go mt_X10_beforeCandidate dX10_beforeCandidate_22 rfl).trans ?_
  refine (s_go mt_X10_beforeCandidate dX10_beforeCandidate_23 rfl).trans ?_
  exact q_cS mt_X10_beforeCandidate dX10_beforeCandidate_24 rfl mt_X10_isBranch rfl rfl
theorem e_X10_beforeCandidate_35 (sc : SC) (p0 : Nat) (x1 : Int32) (x2 : Int32) (x3 : Int32) (v4 : AV) (v5 : AV) (y0 : Int32) (h : AH) : Run sc n_X10_beforeCandidate 35 [aD p0, aI x1, aI x2, aI x3, v4, v5] none [aI y0] h = Run sc n_X10_beforeCandidate (if ¬ y0 = 0 then 44 else 38) [aD p0, aI x1, aI x2, aI x3, v4, v5] none [] h := by
  exact q_if mt_X10_beforeCandidate dX10_beforeCandidate_35 (fun _ _ _ _ => rfl) rfl
theorem e_X10_beforeCandidate_80 (sc : SC) (p0 : Nat) (x1 : Int32) (x2 : Int32) (x3 : Int32) (x4 : Int32) (x5 : Int32) (y0 : Int32) (h : AH) : Run sc n_X10_beforeCandidate 80 [aD p0, aI x1, aI x2, aI x3, aI x4, aI x5] none [aI y0] h = Run sc n_X10_beforeCandidate (if y0 = 0 then 87 else 83) [aD p0, aI x1, aI x2, aI x3, aI x4, aI x5] none [] h := by
  exact q_if mt_X10_beforeCandidate dX10_beforeCandidate_80 (fun _ _ _ _ => rfl) rfl
theorem e_X10_beforeCandidate_108 (sc : SC) (p0 : Nat) (x1 : Int32) (x2 : Int32) (x3 : Int32) (x4 : Int32) (x5 : Int32) (y0 : Int32) (h : AH) : Run sc n_X10_beforeCandidate 108 [aD p0, aI x1, aI x2, aI x3, aI x4, aI x5] none [aI y0] h = Run sc n_X10_beforeCandidate (if y0 ≤ 0 then 113 else 111) [aD p0, aI x1, aI x2, aI x3, aI x4, aI x5] none [] h := by
  exact q_if mt_X10_beforeCandidate dX10_beforeCandidate_108 (fun _ _ _ _ => rfl) rfl
theorem e_X10_beforeCandidate_27 (sc : SC) (p0 : Nat) (x1 : Int32) (x2 : Int32) (x3 : Int32) (v4 : AV) (v5 : AV) (y0 : Int32) (h : AH) : Run sc n_X10_beforeCandidate 27 [aD p0, aI x1, aI x2, aI x3, v4, v5] none [aI y0] h = Run sc n_X10_beforeCandidate (if ¬ y0 = 0 then 44 else 30) [aD p0, aI x1, aI x2, aI x3, v4, v5] none [] h := by
  exact q_if mt_X10_beforeCandidate dX10_beforeCandidate_27 (fun _ _ _ _ => rfl) rfl
/-! BranchSlotFillerModel.isPlain(I)Z -/
theorem e_X10_isPlain_0 (sc : SC) (p0 : Nat) (x1 : Int32) (v2 : AV) (h : AH) : Run sc n_X10_isPlain 0 [aD p0, aI x1, v2] none [] h = bI (rOK sc h (aD p0) 12 = true) (bC (Call sc n_X10_at [aD p0, aI x1, aI (nI 0)] h) (fun v z => Run sc n_X10_isPlain 6 [aD p0, aI x1, v2] none (v.toList ++ []) z) (fun E z => some (.inr E, z))) := by
  refine (s_go mt_X10_isPlain dX10_isPlain_0 rfl).trans ?_
  refine (s_go mt_X10_isPlain dX10_isPlain_1 rfl).trans ?_
  refine (s_go mt_X10_isPlain dX10_isPlain_2 rfl).trans ?_
  exact q_cV mt_X10_isPlain dX10_isPlain_3 rfl mt_X10_at rfl rfl rfl
theorem e_X10_isPlain_11 (sc : SC) (p0 : Nat) (x1 : Int32) (x2 : Int32) (h : AH) : Run sc n_X10_isPlain 11 [aD p0, aI x1, aI x2] none [] h = bC (Call sc n_X10_isBranch [aI x2] h) (fun v z => Run sc n_X10_isPlain 15 [aD p0, aI x1, aI x2] none (v.toList ++ []) z) (fun E z => some (.inr E, z)) := by
  refine (s_go mt_X10_isPlain dX10_isPlain_11 rfl).trans ?_
  exact q_cS mt_X10_isPlain dX10_isPlain_12 rfl mt_X10_isBranch rfl rfl
theorem e_X10_isPlain_18 (sc : SC) (p0 : Nat) (x1 : Int32) (x2 : Int32) (h : AH) : Run sc n_X10_isPlain 18 [aD p0, aI x1, aI x2] none [] h = Run sc n_X10_isPlain (if x2 = (nI 11) then 28 else 24) [aD p0, aI x1, aI x2] none [] h := by
  refine (s_go mt_X10_isPlain dX10_isPlain_18 rfl).trans ?_
  refine (s_go mt_X10_isPlain dX10_isPlain_19 rfl).trans ?_
  exact q_icmp mt_X10_isPlain dX10_isPlain_21 (fun _ _ _ _ => rfl) rfl
theorem e_X10_isPlain_24 (sc : SC) (p0 : Nat) (x1 : Int32) (x2 : Int32) (h : AH) : Run sc n_X10_isPlain 24 [aD p0, aI x1, aI x2] none [] h = Run sc n_X10_isPlain 29 [aD p0, aI x1, aI x2] none [aI (nI 1)] h := by
  refine (s_go mt_X10_isPlain dX10_isPlain_24 rfl).trans ?_
  refine (s_go mt_X10_isPlain dX10_isPlain_25 rfl).trans ?_
  exact rfl
theorem e_X10_isPlain_28 (sc : SC) (p0 : Nat) (x1 : Int32) (x2 : Int32) (h : AH) : Run sc n_X10_isPlain 28 [aD p0, aI x1, aI x2] none [] h = Run sc n_X10_isPlain 29 [aD p0, aI x1, aI x2] none [aI (nI 0)] h := by
  refine (s_go mt_X10_isPlain dX10_isPlain_28 rfl).trans ?_
  exact rfl
theorem e_X10_isPlain_29 (sc : SC) (p0 : Nat) (x1 : Int32) (x2 : Int32) (y0 : Int32) (h : AH) : Run sc n_X10_isPlain 29 [aD p0, aI x1, aI x2] none [aI y0] h = bI (retK (some FieldType.boolean) y0 = true) (some (.inl (some (aI y0)), h)) := by
  exact q_iret mt_X10_isPlain dX10_isPlain_29
theorem e_X10_isPlain_6 (sc : SC) (p0 : Nat) (x1 : Int32) (v2 : AV) (y0 : Int32) (h : AH) : Run sc n_X10_isPlain 6 [aD p0, aI x1, v2] none [aI y0] h = Run sc n_X10_isPlain (if y0 = 0 then 28 else 11) [aD p0, aI x1, aI y0] none [] h := by
  refine (s_go mt_X10_isPlain dX10_isPlain_6 rfl).trans ?_
  refine (s_go mt_X10_isPlain dX10_isPlain_7 rfl).trans ?_
  exact q_if mt_X10_isPlain dX10_isPlain_8 (fun _ _ _ _ => rfl) rfl
theorem e_X10_isPlain_15 (sc : SC) (p0 : Nat) (x1 : Int32) (x2 : Int32) (y0 : Int32) (h : AH) : Run sc n_X10_isPlain 15 [aD p0, aI x1, aI x2] none [aI y0] h = Run sc n_X10_isPlain (if ¬ y0 = 0 then 28 else 18) [aD p0, aI x1, aI x2] none [] h := by
  exact q_if mt_X10_isPlain dX10_isPlain_15 (fun _ _ _ _ => rfl) rfl
/-! BranchSlotFillerModel.targetCandidate(I)I -/
theorem e_X10_targetCandidate_0 (sc : SC) (p0 : Nat) (x1 : Int32) (v2 : AV) (h : AH) : Run sc n_X10_targetCandidate 0 [aD p0, aI x1, v2] none [] h = bI (rOK sc h (aD p0) 12 = true) (bC (Call sc n_X10_at [aD p0, aI x1, aI (nI 3)] h) (fun v z => Run sc n_X10_targetCandidate 6 [aD p0, aI x1, v2] none (v.toList ++ []) z) (fun E z => some (.inr E, z))) := by
  refine (s_go mt_X10_targetCandidate dX10_targetCandidate_0 rfl).trans ?_
  refine (s_go mt_X10_targetCandidate dX10_targetCandidate_1 rfl).trans ?_
  refine (s_go mt_X10_targetCandidate dX10_targetCandidate_2 rfl).trans ?_
  exact q_cV mt_X10_targetCandidate dX10_targetCandidate_3 rfl mt_X10_at rfl rfl rfl
theorem e_X10_targetCandidate_15 (sc : SC) (p0 : Nat) (x1 : Int32) (x2 : Int32) (h : AH) : Run sc n_X10_targetCandidate 15 [aD p0, aI x1, aI x2] none [] h = bI (rOK sc h (aD p0) 12 = true) (bC (Call sc n_X10_isPlain [aD p0, aI x2] h) (fun v z => Run sc n_X10_targetCandidate 20 [aD p0, aI x1, aI x2] none (v.toList ++ []) z) (fun E z => some (.inr E, z))) := by
  refine (s_go mt_X10_targetCandidate dX10_targetCandidate_15 rfl).trans ?_
  refine (s_go mt_X10_targetCandidate dX10_targetCandidate_16 rfl).trans ?_
  exact q_cV mt_X10_targetCandidate dX10_targetCandidate_17 rfl mt_X10_isPlain rfl rfl rfl
theorem e_X10_targetCandidate_23 (sc : SC) (p0 : Nat) (x1 : Int32) (x2 : Int32) (h : AH) : Run sc n_X10_targetCandidate 23 [aD p0, aI x1, aI x2] none [] h = Run sc n_X10_targetCandidate 28 [aD p0, aI x1, aI x2] none [aI x2] h := by
  refine (s_go mt_X10_targetCandidate dX10_targetCandidate_23 rfl).trans ?_
  refine (s_go mt_X10_targetCandidate dX10_targetCandidate_24 rfl).trans ?_
  exact rfl
theorem e_X10_targetCandidate_27 (sc : SC) (p0 : Nat) (x1 : Int32) (x2 : Int32) (h : AH) : Run sc n_X10_targetCandidate 27 [aD p0, aI x1, aI x2] none [] h = Run sc n_X10_targetCandidate 28 [aD p0, aI x1, aI x2] none [aI (-1)] h := by
  refine (s_go mt_X10_targetCandidate dX10_targetCandidate_27 rfl).trans ?_
  exact rfl
theorem e_X10_targetCandidate_28 (sc : SC) (p0 : Nat) (x1 : Int32) (x2 : Int32) (y0 : Int32) (h : AH) : Run sc n_X10_targetCandidate 28 [aD p0, aI x1, aI x2] none [aI y0] h = some (.inl (some (aI y0)), h) := by
  exact q_ret (c := (some (aI y0), h)) mt_X10_targetCandidate dX10_targetCandidate_28 rfl
theorem e_X10_targetCandidate_6 (sc : SC) (p0 : Nat) (x1 : Int32) (v2 : AV) (y0 : Int32) (h : AH) : Run sc n_X10_targetCandidate 6 [aD p0, aI x1, v2] none [aI y0] h = bI (rOK sc h (aD p0) 12 = true) (bC (Call sc n_X10_isEntry [aD p0, aI y0] h) (fun v z => Run sc n_X10_targetCandidate 12 [aD p0, aI x1, aI y0] none (v.toList ++ []) z) (fun E z => some (.inr E, z))) := by
  refine (s_go mt_X10_targetCandidate dX10_targetCandidate_6 rfl).trans ?_
  refine (s_go mt_X10_targetCandidate dX10_targetCandidate_7 rfl).trans ?_
  refine (s_go mt_X10_targetCandidate dX10_targetCandidate_8 rfl).trans ?_
  exact q_cV mt_X10_targetCandidate dX10_targetCandidate_9 rfl mt_X10_isEntry rfl rfl rfl
theorem e_X10_targetCandidate_20 (sc : SC) (p0 : Nat) (x1 : Int32) (x2 : Int32) (y0 : Int32) (h : AH) : Run sc n_X10_targetCandidate 20 [aD p0, aI x1, aI x2] none [aI y0] h = Run sc n_X10_targetCandidate (if y0 = 0 then 27 else 23) [aD p0, aI x1, aI x2] none [] h := by
  exact q_if mt_X10_targetCandidate dX10_targetCandidate_20 (fun _ _ _ _ => rfl) rfl
theorem e_X10_targetCandidate_12 (sc : SC) (p0 : Nat) (x1 : Int32) (x2 : Int32) (y0 : Int32) (h : AH) : Run sc n_X10_targetCandidate 12 [aD p0, aI x1, aI x2] none [aI y0] h = Run sc n_X10_targetCandidate (if y0 = 0 then 27 else 15) [aD p0, aI x1, aI x2] none [] h := by
  exact q_if mt_X10_targetCandidate dX10_targetCandidate_12 (fun _ _ _ _ => rfl) rfl
/-! BranchSlotFillerModel.fallCandidate(I)I -/
theorem e_X10_fallCandidate_0 (sc : SC) (p0 : Nat) (x1 : Int32) (v2 : AV) (h : AH) : Run sc n_X10_fallCandidate 0 [aD p0, aI x1, v2] none [] h = bI (rOK sc h (aD p0) 12 = true) (bC (Call sc n_X10_at [aD p0, aI x1, aI (nI 0)] h) (fun v z => Run sc n_X10_fallCandidate 10 [aD p0, aI x1, aI (x1 + (nI 2))] none (v.toList ++ []) z) (fun E z => some (.inr E, z))) := by
  refine (s_go mt_X10_fallCandidate dX10_fallCandidate_0 rfl).trans ?_
  refine (s_go mt_X10_fallCandidate dX10_fallCandidate_1 rfl).trans ?_
  refine (s_go mt_X10_fallCandidate dX10_fallCandidate_2 rfl).trans ?_
  refine (s_go mt_X10_fallCandidate dX10_fallCandidate_3 rfl).trans ?_
  refine (s_go mt_X10_fallCandidate dX10_fallCandidate_4 rfl).trans ?_
  refine (s_go mt_X10_fallCandidate dX10_fallCandidate_5 rfl).trans ?_
  refine (s_go mt_X10_fallCandidate dX10_fallCandidate_6 rfl).trans ?_
  exact q_cV mt_X10_fallCandidate dX10_fallCandidate_7 rfl mt_X10_at rfl rfl rfl
theorem e_X10_fallCandidate_15 (sc : SC) (p0 : Nat) (x1 : Int32) (x2 : Int32) (h : AH) : Run sc n_X10_fallCandidate 15 [aD p0, aI x1, aI x2] none [] h = bI (rOK sc h (aD p0) 12 = true) (bC (Call sc n_X10_isEntry [aD p0, aI x2] h) (fun v z => Run sc n_X10_fallCandidate 20 [aD p0, aI x1, aI x2] none (v.toList ++ []) z) (fun E z => some (.inr E, z))) := by
  refine (s_go mt_X10_fallCandidate dX10_fallCandidate_15 rfl).trans ?_
  refine (s_go mt_X10_fallCandidate dX10_fallCandidate_16 rfl).trans ?_
  exact q_cV mt_X10_fallCandidate dX10_fallCandidate_17 rfl mt_X10_isEntry rfl rfl rfl
theorem e_X10_fallCandidate_23 (sc : SC) (p0 : Nat) (x1 : Int32) (x2 : Int32) (h : AH) : Run sc n_X10_fallCandidate 23 [aD p0, aI x1, aI x2] none [] h = bI (rOK sc h (aD p0) 12 = true) (bC (Call sc n_X10_isPlain [aD p0, aI x2] h) (fun v z => Run sc n_X10_fallCandidate 28 [aD p0, aI x1, aI x2] none (v.toList ++ []) z) (fun E z => some (.inr E, z))) := by
  refine (s_go mt_X10_fallCandidate dX10_fallCandidate_23 rfl).trans ?_
  refine (s_go mt_X10_fallCandidate dX10_fallCandidate_24 rfl).trans ?_
  exact q_cV mt_X10_fallCandidate dX10_fallCandidate_25 rfl mt_X10_isPlain rfl rfl rfl
theorem e_X10_fallCandidate_31 (sc : SC) (p0 : Nat) (x1 : Int32) (x2 : Int32) (h : AH) : Run sc n_X10_fallCandidate 31 [aD p0, aI x1, aI x2] none [] h = bI (rOK sc h (aD p0) 12 = true) (bC (Call sc n_X10_at [aD p0, aI x2, aI (nI 0)] h) (fun v z => Run sc n_X10_fallCandidate 37 [aD p0, aI x1, aI x2] none (v.toList ++ []) z) (fun E z => some (.inr E, z))) := by
  refine (s_go mt_X10_fallCandidate dX10_fallCandidate_31 rfl).trans ?_
  refine (s_go mt_X10_fallCandidate dX10_fallCandidate_32 rfl).trans ?_
  refine (s_go mt_X10_fallCandidate dX10_fallCandidate_33 rfl).trans ?_
  exact q_cV mt_X10_fallCandidate dX10_fallCandidate_34 rfl mt_X10_at rfl rfl rfl
theorem e_X10_fallCandidate_47 (sc : SC) (p0 : Nat) (x1 : Int32) (x2 : Int32) (h : AH) : Run sc n_X10_fallCandidate 47 [aD p0, aI x1, aI x2] none [] h = bI (rOK sc h (aD p0) 12 = true) (bC (Call sc n_X10_targeted [aD p0, aI x2] h) (fun v z => Run sc n_X10_fallCandidate 52 [aD p0, aI x1, aI x2] none (v.toList ++ []) z) (fun E z => some (.inr E, z))) := by
  refine (s_go mt_X10_fallCandidate dX10_fallCandidate_47 rfl).trans ?_
  refine (s_go mt_X10_fallCandidate dX10_fallCandidate_48 rfl).trans ?_
  exact q_cV mt_X10_fallCandidate dX10_fallCandidate_49 rfl mt_X10_targeted rfl rfl rfl
theorem e_X10_fallCandidate_55 (sc : SC) (p0 : Nat) (x1 : Int32) (x2 : Int32) (h : AH) : Run sc n_X10_fallCandidate 55 [aD p0, aI x1, aI x2] none [] h = some (.inl (some (aI (-1))), h) := by
  refine (s_go mt_X10_fallCandidate dX10_fallCandidate_55 rfl).trans ?_
  exact q_ret (c := (some (aI (-1)), h)) mt_X10_fallCandidate dX10_fallCandidate_56 rfl
theorem e_X10_fallCandidate_57 (sc : SC) (p0 : Nat) (x1 : Int32) (x2 : Int32) (h : AH) : Run sc n_X10_fallCandidate 57 [aD p0, aI x1, aI x2] none [] h = bI (rOK sc h (aD p0) 12 = true) (bC (Call sc n_X10_findLives [aD p0] h) (fun v z => Run sc n_X10_fallCandidate 61 [aD p0, aI x1, aI x2] none (v.toList ++ []) z) (fun E z => some (.inr E, z))) := by
  refine (s_go mt_X10_fallCandidate dX10_fallCandidate_57 rfl).trans ?_
  exact q_cV mt_X10_fallCandidate dX10_fallCandidate_58 rfl mt_X10_findLives rfl rfl rfl
theorem e_X10_fallCandidate_81 (sc : SC) (p0 : Nat) (x1 : Int32) (x2 : Int32) (h : AH) : Run sc n_X10_fallCandidate 81 [aD p0, aI x1, aI x2] none [] h = Run sc n_X10_fallCandidate 86 [aD p0, aI x1, aI x2] none [aI x2] h := by
  refine (s_go mt_X10_fallCandidate dX10_fallCandidate_81 rfl).trans ?_
  refine (s_go mt_X10_fallCandidate dX10_fallCandidate_82 rfl).trans ?_
  exact rfl
theorem e_X10_fallCandidate_85 (sc : SC) (p0 : Nat) (x1 : Int32) (x2 : Int32) (h : AH) : Run sc n_X10_fallCandidate 85 [aD p0, aI x1, aI x2] none [] h = Run sc n_X10_fallCandidate 86 [aD p0, aI x1, aI x2] none [aI (-1)] h := by
  refine (s_go mt_X10_fallCandidate dX10_fallCandidate_85 rfl).trans ?_
  exact rfl
theorem e_X10_fallCandidate_86 (sc : SC) (p0 : Nat) (x1 : Int32) (x2 : Int32) (y0 : Int32) (h : AH) : Run sc n_X10_fallCandidate 86 [aD p0, aI x1, aI x2] none [aI y0] h = some (.inl (some (aI y0)), h) := by
  exact q_ret (c := (some (aI y0), h)) mt_X10_fallCandidate dX10_fallCandidate_86 rfl
theorem e_X10_fallCandidate_10 (sc : SC) (p0 : Nat) (x1 : Int32) (x2 : Int32) (y0 : Int32) (h : AH) : Run sc n_X10_fallCandidate 10 [aD p0, aI x1, aI x2] none [aI y0] h = Run sc n_X10_fallCandidate (if y0 = (nI 10) then 55 else 15) [aD p0, aI x1, aI x2] none [] h := by
  refine (s_go mt_X10_fallCandidate dX10_fallCandidate_10 rfl).trans ?_
  exact q_icmp mt_X10_fallCandidate dX10_fallCandidate_12 (fun _ _ _ _ => rfl) rfl
theorem e_X10_fallCandidate_20 (sc : SC) (p0 : Nat) (x1 : Int32) (x2 : Int32) (y0 : Int32) (h : AH) : Run sc n_X10_fallCandidate 20 [aD p0, aI x1, aI x2] none [aI y0] h = Run sc n_X10_fallCandidate (if y0 = 0 then 55 else 23) [aD p0, aI x1, aI x2] none [] h := by
  exact q_if mt_X10_fallCandidate dX10_fallCandidate_20 (fun _ _ _ _ => rfl) rfl
theorem e_X10_fallCandidate_28 (sc : SC) (p0 : Nat) (x1 : Int32) (x2 : Int32) (y0 : Int32) (h : AH) : Run sc n_X10_fallCandidate 28 [aD p0, aI x1, aI x2] none [aI y0] h = Run sc n_X10_fallCandidate (if y0 = 0 then 55 else 31) [aD p0, aI x1, aI x2] none [] h := by
  exact q_if mt_X10_fallCandidate dX10_fallCandidate_28 (fun _ _ _ _ => rfl) rfl
theorem e_X10_fallCandidate_37 (sc : SC) (p0 : Nat) (x1 : Int32) (x2 : Int32) (y0 : Int32) (h : AH) : Run sc n_X10_fallCandidate 37 [aD p0, aI x1, aI x2] none [aI y0] h = bC (Call sc n_X10_isIn [aI y0, aI (nI 6), aI (nI 7)] h) (fun v z => Run sc n_X10_fallCandidate 44 [aD p0, aI x1, aI x2] none (v.toList ++ []) z) (fun E z => some (.inr E, z)) := by
  refine (s_go mt_X10_fallCandidate dX10_fallCandidate_37 rfl).trans ?_
  refine (s_go mt_X10_fallCandidate dX10_fallCandidate_39 rfl).trans ?_
  exact q_cS mt_X10_fallCandidate dX10_fallCandidate_41 rfl mt_X10_isIn rfl rfl
theorem e_X10_fallCandidate_52 (sc : SC) (p0 : Nat) (x1 : Int32) (x2 : Int32) (y0 : Int32) (h : AH) : Run sc n_X10_fallCandidate 52 [aD p0, aI x1, aI x2] none [aI y0] h = Run sc n_X10_fallCandidate (if y0 ≤ 0 then 57 else 55) [aD p0, aI x1, aI x2] none [] h := by
  exact q_if mt_X10_fallCandidate dX10_fallCandidate_52 (fun _ _ _ _ => rfl) rfl
theorem e_X10_fallCandidate_61 (sc : SC) (p0 : Nat) (x1 : Int32) (x2 : Int32) (h : AH) : Run sc n_X10_fallCandidate 61 [aD p0, aI x1, aI x2] none [] h = bI (rOK sc h (aD p0) 12 = true) (bC (Call sc n_X10_writes [aD p0, aI x2] h) (fun v z => Run sc n_X10_fallCandidate 66 [aD p0, aI x1, aI x2] none (v.toList ++ []) z) (fun E z => some (.inr E, z))) := by
  refine (s_go mt_X10_fallCandidate dX10_fallCandidate_61 rfl).trans ?_
  refine (s_go mt_X10_fallCandidate dX10_fallCandidate_62 rfl).trans ?_
  exact q_cV mt_X10_fallCandidate dX10_fallCandidate_63 rfl mt_X10_writes rfl rfl rfl
theorem e_X10_fallCandidate_44 (sc : SC) (p0 : Nat) (x1 : Int32) (x2 : Int32) (y0 : Int32) (h : AH) : Run sc n_X10_fallCandidate 44 [aD p0, aI x1, aI x2] none [aI y0] h = Run sc n_X10_fallCandidate (if ¬ y0 = 0 then 55 else 47) [aD p0, aI x1, aI x2] none [] h := by
  exact q_if mt_X10_fallCandidate dX10_fallCandidate_44 (fun _ _ _ _ => rfl) rfl
theorem e_X10_fallCandidate_66 (sc : SC) (p0 : Nat) (x1 : Int32) (x2 : Int32) (y0 : Int32) (h : AH) : Run sc n_X10_fallCandidate 66 [aD p0, aI x1, aI x2] none [aI y0] h = bF (getF sc h (aD p0) 12 14) (fun z => Run sc n_X10_fallCandidate 70 [aD p0, aI x1, aI x2] none [z, aI y0] h) := by
  refine (s_go mt_X10_fallCandidate dX10_fallCandidate_66 rfl).trans ?_
  exact q_getfield mt_X10_fallCandidate dX10_fallCandidate_67 rfl
theorem e_X10_fallCandidate_70 (sc : SC) (p0 : Nat) (x1 : Int32) (x2 : Int32) (y0 : Int32) (q1 : Nat) (h : AH) : Run sc n_X10_fallCandidate 70 [aD p0, aI x1, aI x2] none [aD q1, aI y0] h = bI (rOK sc h (aD p0) 12 = true) (bC (Call sc n_X10_at [aD p0, aI x1, aI (nI 3)] h) (fun v z => Run sc n_X10_fallCandidate 76 [aD p0, aI x1, aI x2] none (v.toList ++ [aD q1, aI y0]) z) (fun E z => some (.inr E, z))) := by
  refine (s_go mt_X10_fallCandidate dX10_fallCandidate_70 rfl).trans ?_
  refine (s_go mt_X10_fallCandidate dX10_fallCandidate_71 rfl).trans ?_
  refine (s_go mt_X10_fallCandidate dX10_fallCandidate_72 rfl).trans ?_
  exact q_cV mt_X10_fallCandidate dX10_fallCandidate_73 rfl mt_X10_at rfl rfl rfl
theorem e_X10_fallCandidate_76 (sc : SC) (p0 : Nat) (x1 : Int32) (x2 : Int32) (y0 : Int32) (q1 : Nat) (y2 : Int32) (h : AH) : Run sc n_X10_fallCandidate 76 [aD p0, aI x1, aI x2] none [aI y2, aD q1, aI y0] h = bO (ldI sc h (fun t => t == 0) (aD q1) y2) (fun z => Run sc n_X10_fallCandidate 77 [aD p0, aI x1, aI x2] none [aI z, aI y0] h) := by
  exact q_iaload mt_X10_fallCandidate dX10_fallCandidate_76
theorem e_X10_fallCandidate_77 (sc : SC) (p0 : Nat) (x1 : Int32) (x2 : Int32) (y0 : Int32) (y1 : Int32) (h : AH) : Run sc n_X10_fallCandidate 77 [aD p0, aI x1, aI x2] none [aI y1, aI y0] h = Run sc n_X10_fallCandidate (if ¬ (y0 &&& y1) = 0 then 85 else 81) [aD p0, aI x1, aI x2] none [] h := by
  refine (s_go mt_X10_fallCandidate dX10_fallCandidate_77 rfl).trans ?_
  exact q_if mt_X10_fallCandidate dX10_fallCandidate_78 (fun _ _ _ _ => rfl) rfl
/-! BranchSlotFillerModel.candidateOf(II)I -/
theorem e_X10_candidateOf_0 (sc : SC) (p0 : Nat) (x1 : Int32) (x2 : Int32) (h : AH) : Run sc n_X10_candidateOf 0 [aD p0, aI x1, aI x2] none [] h = Run sc n_X10_candidateOf (if ¬ x2 = 0 then 12 else 4) [aD p0, aI x1, aI x2] none [] h := by
  refine (s_go mt_X10_candidateOf dX10_candidateOf_0 rfl).trans ?_
  exact q_if mt_X10_candidateOf dX10_candidateOf_1 (fun _ _ _ _ => rfl) rfl
theorem e_X10_candidateOf_4 (sc : SC) (p0 : Nat) (x1 : Int32) (x2 : Int32) (h : AH) : Run sc n_X10_candidateOf 4 [aD p0, aI x1, aI x2] none [] h = bI (rOK sc h (aD p0) 12 = true) (bC (Call sc n_X10_beforeCandidate [aD p0, aI x1] h) (fun v z => Run sc n_X10_candidateOf 9 [aD p0, aI x1, aI x2] none (v.toList ++ []) z) (fun E z => some (.inr E, z))) := by
  refine (s_go mt_X10_candidateOf dX10_candidateOf_4 rfl).trans ?_
  refine (s_go mt_X10_candidateOf dX10_candidateOf_5 rfl).trans ?_
  exact q_cV mt_X10_candidateOf dX10_candidateOf_6 rfl mt_X10_beforeCandidate rfl rfl rfl
theorem e_X10_candidateOf_12 (sc : SC) (p0 : Nat) (x1 : Int32) (x2 : Int32) (h : AH) : Run sc n_X10_candidateOf 12 [aD p0, aI x1, aI x2] none [] h = Run sc n_X10_candidateOf (if ¬ x2 = (nI 1) then 25 else 17) [aD p0, aI x1, aI x2] none [] h := by
  refine (s_go mt_X10_candidateOf dX10_candidateOf_12 rfl).trans ?_
  refine (s_go mt_X10_candidateOf dX10_candidateOf_13 rfl).trans ?_
  exact q_icmp mt_X10_candidateOf dX10_candidateOf_14 (fun _ _ _ _ => rfl) rfl
theorem e_X10_candidateOf_17 (sc : SC) (p0 : Nat) (x1 : Int32) (x2 : Int32) (h : AH) : Run sc n_X10_candidateOf 17 [aD p0, aI x1, aI x2] none [] h = bI (rOK sc h (aD p0) 12 = true) (bC (Call sc n_X10_targetCandidate [aD p0, aI x1] h) (fun v z => Run sc n_X10_candidateOf 22 [aD p0, aI x1, aI x2] none (v.toList ++ []) z) (fun E z => some (.inr E, z))) := by
  refine (s_go mt_X10_candidateOf dX10_candidateOf_17 rfl).trans ?_
  refine (s_go mt_X10_candidateOf dX10_candidateOf_18 rfl).trans ?_
  exact q_cV mt_X10_candidateOf dX10_candidateOf_19 rfl mt_X10_targetCandidate rfl rfl rfl
theorem e_X10_candidateOf_25 (sc : SC) (p0 : Nat) (x1 : Int32) (x2 : Int32) (h : AH) : Run sc n_X10_candidateOf 25 [aD p0, aI x1, aI x2] none [] h = bI (rOK sc h (aD p0) 12 = true) (bC (Call sc n_X10_fallCandidate [aD p0, aI x1] h) (fun v z => Run sc n_X10_candidateOf 30 [aD p0, aI x1, aI x2] none (v.toList ++ []) z) (fun E z => some (.inr E, z))) := by
  refine (s_go mt_X10_candidateOf dX10_candidateOf_25 rfl).trans ?_
  refine (s_go mt_X10_candidateOf dX10_candidateOf_26 rfl).trans ?_
  exact q_cV mt_X10_candidateOf dX10_candidateOf_27 rfl mt_X10_fallCandidate rfl rfl rfl
theorem e_X10_candidateOf_30 (sc : SC) (p0 : Nat) (x1 : Int32) (x2 : Int32) (y0 : Int32) (h : AH) : Run sc n_X10_candidateOf 30 [aD p0, aI x1, aI x2] none [aI y0] h = some (.inl (some (aI y0)), h) := by
  exact q_ret (c := (some (aI y0), h)) mt_X10_candidateOf dX10_candidateOf_30 rfl
theorem e_X10_candidateOf_9 (sc : SC) (p0 : Nat) (x1 : Int32) (x2 : Int32) (y0 : Int32) (h : AH) : Run sc n_X10_candidateOf 9 [aD p0, aI x1, aI x2] none [aI y0] h = Run sc n_X10_candidateOf 30 [aD p0, aI x1, aI x2] none [aI y0] h := by
  refine (s_go mt_X10_candidateOf dX10_candidateOf_9 rfl).trans ?_
  exact rfl
theorem e_X10_candidateOf_22 (sc : SC) (p0 : Nat) (x1 : Int32) (x2 : Int32) (y0 : Int32) (h : AH) : Run sc n_X10_candidateOf 22 [aD p0, aI x1, aI x2] none [aI y0] h = Run sc n_X10_candidateOf 30 [aD p0, aI x1, aI x2] none [aI y0] h := by
  refine (s_go mt_X10_candidateOf dX10_candidateOf_22 rfl).trans ?_
  exact rfl
/-! BranchSlotFillerModel.problem(II)I -/
theorem e_X10_problem_0 (sc : SC) (p0 : Nat) (x1 : Int32) (x2 : Int32) (h : AH) : Run sc n_X10_problem 0 [aD p0, aI x1, aI x2] none [] h = bI (rOK sc h (aD p0) 12 = true) (bC (Call sc n_X10_isEntry [aD p0, aI x1] h) (fun v z => Run sc n_X10_problem 5 [aD p0, aI x1, aI x2] none (v.toList ++ []) z) (fun E z => some (.inr E, z))) := by
  refine (s_go mt_X10_problem dX10_problem_0 rfl).trans ?_
  refine (s_go mt_X10_problem dX10_problem_1 rfl).trans ?_
  exact q_cV mt_X10_problem dX10_problem_2 rfl mt_X10_isEntry rfl rfl rfl
theorem e_X10_problem_8 (sc : SC) (p0 : Nat) (x1 : Int32) (x2 : Int32) (h : AH) : Run sc n_X10_problem 8 [aD p0, aI x1, aI x2] none [] h = some (.inl (some (aI (nI 1))), h) := by
  refine (s_go mt_X10_problem dX10_problem_8 rfl).trans ?_
  exact q_ret (c := (some (aI (nI 1)), h)) mt_X10_problem dX10_problem_9 rfl
theorem e_X10_problem_10 (sc : SC) (p0 : Nat) (x1 : Int32) (x2 : Int32) (h : AH) : Run sc n_X10_problem 10 [aD p0, aI x1, aI x2] none [] h = bC (Call sc n_X10_isIn [aI x2, aI (nI 0), aI (nI 2)] h) (fun v z => Run sc n_X10_problem 16 [aD p0, aI x1, aI x2] none (v.toList ++ []) z) (fun E z => some (.inr E, z)) := by
  refine (s_go mt_X10_problem dX10_problem_10 rfl).trans ?_
  refine (s_go mt_X10_problem dX10_problem_11 rfl).trans ?_
  refine (s_go mt_X10_problem dX10_problem_12 rfl).trans ?_
  exact q_cS mt_X10_problem dX10_problem_13 rfl mt_X10_isIn rfl rfl
theorem e_X10_problem_19 (sc : SC) (p0 : Nat) (x1 : Int32) (x2 : Int32) (h : AH) : Run sc n_X10_problem 19 [aD p0, aI x1, aI x2] none [] h = Run sc n_X10_problem 65 [aD p0, aI x1, aI x2] none [aI (nI 2)] h := by
  refine (s_go mt_X10_problem dX10_problem_19 rfl).trans ?_
  refine (s_go mt_X10_problem dX10_problem_20 rfl).trans ?_
  exact rfl
theorem e_X10_problem_23 (sc : SC) (p0 : Nat) (x1 : Int32) (x2 : Int32) (h : AH) : Run sc n_X10_problem 23 [aD p0, aI x1, aI x2] none [] h = bI (rOK sc h (aD p0) 12 = true) (bC (Call sc n_X10_at [aD p0, aI x1, aI (nI 0)] h) (fun v z => Run sc n_X10_problem 29 [aD p0, aI x1, aI x2] none (v.toList ++ []) z) (fun E z => some (.inr E, z))) := by
  refine (s_go mt_X10_problem dX10_problem_23 rfl).trans ?_
  refine (s_go mt_X10_problem dX10_problem_24 rfl).trans ?_
  refine (s_go mt_X10_problem dX10_problem_25 rfl).trans ?_
  exact q_cV mt_X10_problem dX10_problem_26 rfl mt_X10_at rfl rfl rfl
theorem e_X10_problem_35 (sc : SC) (p0 : Nat) (x1 : Int32) (x2 : Int32) (h : AH) : Run sc n_X10_problem 35 [aD p0, aI x1, aI x2] none [] h = bI (rOK sc h (aD p0) 12 = true) (bC (Call sc n_X10_at [aD p0, aI (x1 + (nI 1)), aI (nI 0)] h) (fun v z => Run sc n_X10_problem 43 [aD p0, aI x1, aI x2] none (v.toList ++ []) z) (fun E z => some (.inr E, z))) := by
  refine (s_go mt_X10_problem dX10_problem_35 rfl).trans ?_
  refine (s_go mt_X10_problem dX10_problem_36 rfl).trans ?_
  refine (s_go mt_X10_problem dX10_problem_37 rfl).trans ?_
  refine (s_go mt_X10_problem dX10_problem_38 rfl).trans ?_
  refine (s_go mt_X10_problem dX10_problem_39 rfl).trans ?_
  exact q_cV mt_X10_problem dX10_problem_40 rfl mt_X10_at rfl rfl rfl
theorem e_X10_problem_46 (sc : SC) (p0 : Nat) (x1 : Int32) (x2 : Int32) (h : AH) : Run sc n_X10_problem 46 [aD p0, aI x1, aI x2] none [] h = Run sc n_X10_problem 65 [aD p0, aI x1, aI x2] none [aI (nI 3)] h := by
  refine (s_go mt_X10_problem dX10_problem_46 rfl).trans ?_
  refine (s_go mt_X10_problem dX10_problem_47 rfl).trans ?_
  exact rfl
theorem e_X10_problem_50 (sc : SC) (p0 : Nat) (x1 : Int32) (x2 : Int32) (h : AH) : Run sc n_X10_problem 50 [aD p0, aI x1, aI x2] none [] h = bI (rOK sc h (aD p0) 12 = true) (bC (Call sc n_X10_candidateOf [aD p0, aI x1, aI x2] h) (fun v z => Run sc n_X10_problem 56 [aD p0, aI x1, aI x2] none (v.toList ++ []) z) (fun E z => some (.inr E, z))) := by
  refine (s_go mt_X10_problem dX10_problem_50 rfl).trans ?_
  refine (s_go mt_X10_problem dX10_problem_51 rfl).trans ?_
  refine (s_go mt_X10_problem dX10_problem_52 rfl).trans ?_
  exact q_cV mt_X10_problem dX10_problem_53 rfl mt_X10_candidateOf rfl rfl rfl
theorem e_X10_problem_60 (sc : SC) (p0 : Nat) (x1 : Int32) (x2 : Int32) (h : AH) : Run sc n_X10_problem 60 [aD p0, aI x1, aI x2] none [] h = Run sc n_X10_problem 65 [aD p0, aI x1, aI x2] none [aI (nI 4)] h := by
  refine (s_go mt_X10_problem dX10_problem_60 rfl).trans ?_
  refine (s_go mt_X10_problem dX10_problem_61 rfl).trans ?_
  exact rfl
theorem e_X10_problem_64 (sc : SC) (p0 : Nat) (x1 : Int32) (x2 : Int32) (h : AH) : Run sc n_X10_problem 64 [aD p0, aI x1, aI x2] none [] h = Run sc n_X10_problem 65 [aD p0, aI x1, aI x2] none [aI (nI 0)] h := by
  refine (s_go mt_X10_problem dX10_problem_64 rfl).trans ?_
  exact rfl
theorem e_X10_problem_65 (sc : SC) (p0 : Nat) (x1 : Int32) (x2 : Int32) (y0 : Int32) (h : AH) : Run sc n_X10_problem 65 [aD p0, aI x1, aI x2] none [aI y0] h = some (.inl (some (aI y0)), h) := by
  exact q_ret (c := (some (aI y0), h)) mt_X10_problem dX10_problem_65 rfl
theorem e_X10_problem_5 (sc : SC) (p0 : Nat) (x1 : Int32) (x2 : Int32) (y0 : Int32) (h : AH) : Run sc n_X10_problem 5 [aD p0, aI x1, aI x2] none [aI y0] h = Run sc n_X10_problem (if ¬ y0 = 0 then 10 else 8) [aD p0, aI x1, aI x2] none [] h := by
  exact q_if mt_X10_problem dX10_problem_5 (fun _ _ _ _ => rfl) rfl
theorem e_X10_problem_16 (sc : SC) (p0 : Nat) (x1 : Int32) (x2 : Int32) (y0 : Int32) (h : AH) : Run sc n_X10_problem 16 [aD p0, aI x1, aI x2] none [aI y0] h = Run sc n_X10_problem (if ¬ y0 = 0 then 23 else 19) [aD p0, aI x1, aI x2] none [] h := by
  exact q_if mt_X10_problem dX10_problem_16 (fun _ _ _ _ => rfl) rfl
theorem e_X10_problem_29 (sc : SC) (p0 : Nat) (x1 : Int32) (x2 : Int32) (y0 : Int32) (h : AH) : Run sc n_X10_problem 29 [aD p0, aI x1, aI x2] none [aI y0] h = bC (Call sc n_X10_isBranch [aI y0] h) (fun v z => Run sc n_X10_problem 32 [aD p0, aI x1, aI x2] none (v.toList ++ []) z) (fun E z => some (.inr E, z)) := by
  exact q_cS mt_X10_problem dX10_problem_29 rfl mt_X10_isBranch rfl rfl
theorem e_X10_problem_43 (sc : SC) (p0 : Nat) (x1 : Int32) (x2 : Int32) (y0 : Int32) (h : AH) : Run sc n_X10_problem 43 [aD p0, aI x1, aI x2] none [aI y0] h = Run sc n_X10_problem (if y0 = 0 then 50 else 46) [aD p0, aI x1, aI x2] none [] h := by
  exact q_if mt_X10_problem dX10_problem_43 (fun _ _ _ _ => rfl) rfl
theorem e_X10_problem_56 (sc : SC) (p0 : Nat) (x1 : Int32) (x2 : Int32) (y0 : Int32) (h : AH) : Run sc n_X10_problem 56 [aD p0, aI x1, aI x2] none [aI y0] h = Run sc n_X10_problem (if ¬ y0 = (-1) then 64 else 60) [aD p0, aI x1, aI x2] none [] h := by
  refine (s_go mt_X10_problem dX10_problem_56 rfl).trans ?_
  exact q_icmp mt_X10_problem dX10_problem_57 (fun _ _ _ _ => rfl) rfl
theorem e_X10_problem_32 (sc : SC) (p0 : Nat) (x1 : Int32) (x2 : Int32) (y0 : Int32) (h : AH) : Run sc n_X10_problem 32 [aD p0, aI x1, aI x2] none [aI y0] h = Run sc n_X10_problem (if y0 = 0 then 46 else 35) [aD p0, aI x1, aI x2] none [] h := by
  exact q_if mt_X10_problem dX10_problem_32 (fun _ _ _ _ => rfl) rfl
/-! BranchSlotFillerModel.candidate(II)I -/
theorem e_X10_candidate_0 (sc : SC) (p0 : Nat) (x1 : Int32) (x2 : Int32) (h : AH) : Run sc n_X10_candidate 0 [aD p0, aI x1, aI x2] none [] h = bI (rOK sc h (aD p0) 12 = true) (bC (Call sc n_X10_problem [aD p0, aI x1, aI x2] h) (fun v z => Run sc n_X10_candidate 7 [aD p0, aI x1, aI x2] none (v.toList ++ [aD p0]) z) (fun E z => some (.inr E, z))) := by
  refine (s_go mt_X10_candidate dX10_candidate_0 rfl).trans ?_
  refine (s_go mt_X10_candidate dX10_candidate_1 rfl).trans ?_
  refine (s_go mt_X10_candidate dX10_candidate_2 rfl).trans ?_
  refine (s_go mt_X10_candidate dX10_candidate_3 rfl).trans ?_
  exact q_cV mt_X10_candidate dX10_candidate_4 rfl mt_X10_problem rfl rfl rfl
theorem e_X10_candidate_17 (sc : SC) (p0 : Nat) (x1 : Int32) (x2 : Int32) (h : AH) : Run sc n_X10_candidate 17 [aD p0, aI x1, aI x2] none [] h = bI (rOK sc h (aD p0) 12 = true) (bC (Call sc n_X10_candidateOf [aD p0, aI x1, aI x2] h) (fun v z => Run sc n_X10_candidate 23 [aD p0, aI x1, aI x2] none (v.toList ++ []) z) (fun E z => some (.inr E, z))) := by
  refine (s_go mt_X10_candidate dX10_candidate_17 rfl).trans ?_
  refine (s_go mt_X10_candidate dX10_candidate_18 rfl).trans ?_
  refine (s_go mt_X10_candidate dX10_candidate_19 rfl).trans ?_
  exact q_cV mt_X10_candidate dX10_candidate_20 rfl mt_X10_candidateOf rfl rfl rfl
theorem e_X10_candidate_26 (sc : SC) (p0 : Nat) (x1 : Int32) (x2 : Int32) (h : AH) : Run sc n_X10_candidate 26 [aD p0, aI x1, aI x2] none [] h = Run sc n_X10_candidate 27 [aD p0, aI x1, aI x2] none [aI (nI 0)] h := by
  refine (s_go mt_X10_candidate dX10_candidate_26 rfl).trans ?_
  exact rfl
theorem e_X10_candidate_27 (sc : SC) (p0 : Nat) (x1 : Int32) (x2 : Int32) (y0 : Int32) (h : AH) : Run sc n_X10_candidate 27 [aD p0, aI x1, aI x2] none [aI y0] h = some (.inl (some (aI y0)), h) := by
  exact q_ret (c := (some (aI y0), h)) mt_X10_candidate dX10_candidate_27 rfl
theorem e_X10_candidate_7 (sc : SC) (p0 : Nat) (x1 : Int32) (x2 : Int32) (q0 : Nat) (y1 : Int32) (h : AH) : Run sc n_X10_candidate 7 [aD p0, aI x1, aI x2] none [aI y1, aD q0] h = bO (putF h q0 12 0 0 (aI y1)) (fun z => Run sc n_X10_candidate 10 [aD p0, aI x1, aI x2] none [] z) := by
  exact q_putfield mt_X10_candidate dX10_candidate_7 rfl rfl rfl rfl
theorem e_X10_candidate_23 (sc : SC) (p0 : Nat) (x1 : Int32) (x2 : Int32) (y0 : Int32) (h : AH) : Run sc n_X10_candidate 23 [aD p0, aI x1, aI x2] none [aI y0] h = Run sc n_X10_candidate 27 [aD p0, aI x1, aI x2] none [aI y0] h := by
  refine (s_go mt_X10_candidate dX10_candidate_23 rfl).trans ?_
  exact rfl
theorem e_X10_candidate_10 (sc : SC) (p0 : Nat) (x1 : Int32) (x2 : Int32) (h : AH) : Run sc n_X10_candidate 10 [aD p0, aI x1, aI x2] none [] h = bF (getF sc h (aD p0) 12 0) (fun z => Run sc n_X10_candidate 14 [aD p0, aI x1, aI x2] none [z] h) := by
  refine (s_go mt_X10_candidate dX10_candidate_10 rfl).trans ?_
  exact q_getfield mt_X10_candidate dX10_candidate_11 rfl
theorem e_X10_candidate_14 (sc : SC) (p0 : Nat) (x1 : Int32) (x2 : Int32) (y0 : Int32) (h : AH) : Run sc n_X10_candidate 14 [aD p0, aI x1, aI x2] none [aI y0] h = Run sc n_X10_candidate (if ¬ y0 = 0 then 26 else 17) [aD p0, aI x1, aI x2] none [] h := by
  exact q_if mt_X10_candidate dX10_candidate_14 (fun _ _ _ _ => rfl) rfl
/-! BranchSlotFillerModel.take(I)V -/
theorem e_X10_take_0 (sc : SC) (p0 : Nat) (x1 : Int32) (v2 : AV) (h : AH) : Run sc n_X10_take 0 [aD p0, aI x1, v2] none [] h = bF (getF sc h (aD p0) 12 3) (fun z => Run sc n_X10_take 4 [aD p0, aI x1, v2] none [z] h) := by
  refine (s_go mt_X10_take dX10_take_0 rfl).trans ?_
  exact q_getfield mt_X10_take dX10_take_1 rfl
theorem e_X10_take_12 (sc : SC) (p0 : Nat) (x1 : Int32) (x2 : Int32) (h : AH) : Run sc n_X10_take 12 [aD p0, aI x1, aI x2] none [] h = bF (getF sc h (aD p0) 12 3) (fun z => Run sc n_X10_take 17 [aD p0, aI x1, aI x2] none [z, aI x2] h) := by
  refine (s_go mt_X10_take dX10_take_12 rfl).trans ?_
  refine (s_go mt_X10_take dX10_take_13 rfl).trans ?_
  exact q_getfield mt_X10_take dX10_take_14 rfl
theorem e_X10_take_22 (sc : SC) (p0 : Nat) (x1 : Int32) (x2 : Int32) (h : AH) : Run sc n_X10_take 22 [aD p0, aI x1, aI x2] none [] h = bI (rOK sc h (aD p0) 12 = true) (bC (Call sc n_X10_at [aD p0, aI (x2 + (nI 1)), aI (nI 0)] h) (fun v z => Run sc n_X10_take 32 [aD p0, aI x1, aI x2] none (v.toList ++ [aI x2, aD p0]) z) (fun E z => some (.inr E, z))) := by
  refine (s_go mt_X10_take dX10_take_22 rfl).trans ?_
  refine (s_go mt_X10_take dX10_take_23 rfl).trans ?_
  refine (s_go mt_X10_take dX10_take_24 rfl).trans ?_
  refine (s_go mt_X10_take dX10_take_25 rfl).trans ?_
  refine (s_go mt_X10_take dX10_take_26 rfl).trans ?_
  refine (s_go mt_X10_take dX10_take_27 rfl).trans ?_
  refine (s_go mt_X10_take dX10_take_28 rfl).trans ?_
  exact q_cV mt_X10_take dX10_take_29 rfl mt_X10_at rfl rfl rfl
theorem e_X10_take_73 (sc : SC) (p0 : Nat) (x1 : Int32) (x2 : Int32) (h : AH) : Run sc n_X10_take 73 [aD p0, aI x1, aI x2] none [] h = Run sc n_X10_take 75 [aD p0, aI x1, aI (nI 0)] none [] h := by
  refine (s_go mt_X10_take dX10_take_73 rfl).trans ?_
  refine (s_go mt_X10_take dX10_take_74 rfl).trans ?_
  exact rfl
theorem e_X10_take_75 (sc : SC) (p0 : Nat) (x1 : Int32) (x2 : Int32) (h : AH) : Run sc n_X10_take 75 [aD p0, aI x1, aI x2] none [] h = bF (getF sc h (aD p0) 12 3) (fun z => Run sc n_X10_take 80 [aD p0, aI x1, aI x2] none [z, aI x2] h) := by
  refine (s_go mt_X10_take dX10_take_75 rfl).trans ?_
  refine (s_go mt_X10_take dX10_take_76 rfl).trans ?_
  exact q_getfield mt_X10_take dX10_take_77 rfl
theorem e_X10_take_85 (sc : SC) (p0 : Nat) (x1 : Int32) (x2 : Int32) (h : AH) : Run sc n_X10_take 85 [aD p0, aI x1, aI x2] none [] h = bI (rOK sc h (aD p0) 12 = true) (bC (Call sc n_X10_at [aD p0, aI x2, aI (nI 0)] h) (fun v z => Run sc n_X10_take 91 [aD p0, aI x1, aI x2] none (v.toList ++ []) z) (fun E z => some (.inr E, z))) := by
  refine (s_go mt_X10_take dX10_take_85 rfl).trans ?_
  refine (s_go mt_X10_take dX10_take_86 rfl).trans ?_
  refine (s_go mt_X10_take dX10_take_87 rfl).trans ?_
  exact q_cV mt_X10_take dX10_take_88 rfl mt_X10_at rfl rfl rfl
theorem e_X10_take_97 (sc : SC) (p0 : Nat) (x1 : Int32) (x2 : Int32) (h : AH) : Run sc n_X10_take 97 [aD p0, aI x1, aI x2] none [] h = bI (rOK sc h (aD p0) 12 = true) (bC (Call sc n_X10_at [aD p0, aI x2, aI (nI 3)] h) (fun v z => Run sc n_X10_take 103 [aD p0, aI x1, aI x2] none (v.toList ++ []) z) (fun E z => some (.inr E, z))) := by
  refine (s_go mt_X10_take dX10_take_97 rfl).trans ?_
  refine (s_go mt_X10_take dX10_take_98 rfl).trans ?_
  refine (s_go mt_X10_take dX10_take_99 rfl).trans ?_
  exact q_cV mt_X10_take dX10_take_100 rfl mt_X10_at rfl rfl rfl
theorem e_X10_take_107 (sc : SC) (p0 : Nat) (x1 : Int32) (x2 : Int32) (h : AH) : Run sc n_X10_take 107 [aD p0, aI x1, aI x2] none [] h = bF (getF sc h (aD p0) 12 3) (fun z => Run sc n_X10_take 111 [aD p0, aI x1, aI x2] none [z] h) := by
  refine (s_go mt_X10_take dX10_take_107 rfl).trans ?_
  exact q_getfield mt_X10_take dX10_take_108 rfl
theorem e_X10_take_123 (sc : SC) (p0 : Nat) (x1 : Int32) (x2 : Int32) (h : AH) : Run sc n_X10_take 123 [aD p0, aI x1, aI x2] none [] h = Run sc n_X10_take 75 [aD p0, aI x1, aI (x2 + nI 1)] none [] h := by
  refine (s_go mt_X10_take dX10_take_123 rfl).trans ?_
  refine (s_go mt_X10_take dX10_take_126 rfl).trans ?_
  exact rfl
theorem e_X10_take_129 (sc : SC) (p0 : Nat) (x1 : Int32) (x2 : Int32) (h : AH) : Run sc n_X10_take 129 [aD p0, aI x1, aI x2] none [] h = some (.inl none, h) := by
  exact q_ret (c := (none, h)) mt_X10_take dX10_take_129 rfl
theorem e_X10_take_4 (sc : SC) (p0 : Nat) (x1 : Int32) (v2 : AV) (q0 : Nat) (h : AH) : Run sc n_X10_take 4 [aD p0, aI x1, v2] none [aD q0] h = bO (ldI sc h (fun t => t == 0) (aD q0) (nI 0)) (fun z => Run sc n_X10_take 7 [aD p0, aI x1, v2] none [aI z, aI (nI 0), aD q0] h) := by
  refine (s_go mt_X10_take dX10_take_4 rfl).trans ?_
  refine (s_go mt_X10_take dX10_take_5 rfl).trans ?_
  exact q_iaload mt_X10_take dX10_take_6
theorem e_X10_take_17 (sc : SC) (p0 : Nat) (x1 : Int32) (x2 : Int32) (y0 : Int32) (q1 : Nat) (h : AH) : Run sc n_X10_take 17 [aD p0, aI x1, aI x2] none [aD q1, aI y0] h = bO (ldI sc h (fun t => t == 0) (aD q1) (nI 0)) (fun z => Run sc n_X10_take 19 [aD p0, aI x1, aI x2] none [aI z, aI y0] h) := by
  refine (s_go mt_X10_take dX10_take_17 rfl).trans ?_
  exact q_iaload mt_X10_take dX10_take_18
theorem e_X10_take_32 (sc : SC) (p0 : Nat) (x1 : Int32) (x2 : Int32) (q0 : Nat) (y1 : Int32) (y2 : Int32) (h : AH) : Run sc n_X10_take 32 [aD p0, aI x1, aI x2] none [aI y2, aI y1, aD q0] h = bI (rOK sc h (aD p0) 12 = true) (bC (Call sc n_X10_at [aD p0, aI (x2 + (nI 1)), aI (nI 1)] h) (fun v z => Run sc n_X10_take 40 [aD p0, aI x1, aI x2] none (v.toList ++ [aI y2, aI y1, aD q0]) z) (fun E z => some (.inr E, z))) := by
  refine (s_go mt_X10_take dX10_take_32 rfl).trans ?_
  refine (s_go mt_X10_take dX10_take_33 rfl).trans ?_
  refine (s_go mt_X10_take dX10_take_34 rfl).trans ?_
  refine (s_go mt_X10_take dX10_take_35 rfl).trans ?_
  refine (s_go mt_X10_take dX10_take_36 rfl).trans ?_
  exact q_cV mt_X10_take dX10_take_37 rfl mt_X10_at rfl rfl rfl
theorem e_X10_take_80 (sc : SC) (p0 : Nat) (x1 : Int32) (x2 : Int32) (y0 : Int32) (q1 : Nat) (h : AH) : Run sc n_X10_take 80 [aD p0, aI x1, aI x2] none [aD q1, aI y0] h = bO (ldI sc h (fun t => t == 0) (aD q1) (nI 0)) (fun z => Run sc n_X10_take 82 [aD p0, aI x1, aI x2] none [aI z, aI y0] h) := by
  refine (s_go mt_X10_take dX10_take_80 rfl).trans ?_
  exact q_iaload mt_X10_take dX10_take_81
theorem e_X10_take_91 (sc : SC) (p0 : Nat) (x1 : Int32) (x2 : Int32) (y0 : Int32) (h : AH) : Run sc n_X10_take 91 [aD p0, aI x1, aI x2] none [aI y0] h = bC (Call sc n_X10_isBranch [aI y0] h) (fun v z => Run sc n_X10_take 94 [aD p0, aI x1, aI x2] none (v.toList ++ []) z) (fun E z => some (.inr E, z)) := by
  exact q_cS mt_X10_take dX10_take_91 rfl mt_X10_isBranch rfl rfl
theorem e_X10_take_103 (sc : SC) (p0 : Nat) (x1 : Int32) (x2 : Int32) (y0 : Int32) (h : AH) : Run sc n_X10_take 103 [aD p0, aI x1, aI x2] none [aI y0] h = Run sc n_X10_take (if y0 ≤ x1 then 123 else 107) [aD p0, aI x1, aI x2] none [] h := by
  refine (s_go mt_X10_take dX10_take_103 rfl).trans ?_
  exact q_icmp mt_X10_take dX10_take_104 (fun _ _ _ _ => rfl) rfl
theorem e_X10_take_111 (sc : SC) (p0 : Nat) (x1 : Int32) (x2 : Int32) (q0 : Nat) (h : AH) : Run sc n_X10_take 111 [aD p0, aI x1, aI x2] none [aD q0] h = bO (ldI sc h (fun t => t == 0) (aD q0) (((nI 1) + ((nI 5) * x2)) + (nI 3))) (fun z => Run sc n_X10_take 120 [aD p0, aI x1, aI x2] none [aI z, aI (((nI 1) + ((nI 5) * x2)) + (nI 3)), aD q0] h) := by
  refine (s_go mt_X10_take dX10_take_111 rfl).trans ?_
  refine (s_go mt_X10_take dX10_take_112 rfl).trans ?_
  refine (s_go mt_X10_take dX10_take_113 rfl).trans ?_
  refine (s_go mt_X10_take dX10_take_114 rfl).trans ?_
  refine (s_go mt_X10_take dX10_take_115 rfl).trans ?_
  refine (s_go mt_X10_take dX10_take_116 rfl).trans ?_
  refine (s_go mt_X10_take dX10_take_117 rfl).trans ?_
  refine (s_go mt_X10_take dX10_take_118 rfl).trans ?_
  exact q_iaload mt_X10_take dX10_take_119
theorem e_X10_take_7 (sc : SC) (p0 : Nat) (x1 : Int32) (v2 : AV) (q0 : Nat) (y1 : Int32) (y2 : Int32) (h : AH) : Run sc n_X10_take 7 [aD p0, aI x1, v2] none [aI y2, aI y1, aD q0] h = bO (stI h (fun t => t == 0) q0 y1 (y2 - (nI 1))) (fun z => Run sc n_X10_take 10 [aD p0, aI x1, v2] none [] z) := by
  refine (s_go mt_X10_take dX10_take_7 rfl).trans ?_
  refine (s_go mt_X10_take dX10_take_8 rfl).trans ?_
  exact q_iastore mt_X10_take dX10_take_9
theorem e_X10_take_19 (sc : SC) (p0 : Nat) (x1 : Int32) (x2 : Int32) (y0 : Int32) (y1 : Int32) (h : AH) : Run sc n_X10_take 19 [aD p0, aI x1, aI x2] none [aI y1, aI y0] h = Run sc n_X10_take (if y1 ≤ y0 then 73 else 22) [aD p0, aI x1, aI x2] none [] h := by
  exact q_icmp mt_X10_take dX10_take_19 (fun _ _ _ _ => rfl) rfl
theorem e_X10_take_40 (sc : SC) (p0 : Nat) (x1 : Int32) (x2 : Int32) (q0 : Nat) (y1 : Int32) (y2 : Int32) (y3 : Int32) (h : AH) : Run sc n_X10_take 40 [aD p0, aI x1, aI x2] none [aI y3, aI y2, aI y1, aD q0] h = bI (rOK sc h (aD p0) 12 = true) (bC (Call sc n_X10_at [aD p0, aI (x2 + (nI 1)), aI (nI 2)] h) (fun v z => Run sc n_X10_take 48 [aD p0, aI x1, aI x2] none (v.toList ++ [aI y3, aI y2, aI y1, aD q0]) z) (fun E z => some (.inr E, z))) := by
  refine (s_go mt_X10_take dX10_take_40 rfl).trans ?_
  refine (s_go mt_X10_take dX10_take_41 rfl).trans ?_
  refine (s_go mt_X10_take dX10_take_42 rfl).trans ?_
  refine (s_go mt_X10_take dX10_take_43 rfl).trans ?_
  refine (s_go mt_X10_take dX10_take_44 rfl).trans ?_
  exact q_cV mt_X10_take dX10_take_45 rfl mt_X10_at rfl rfl rfl
theorem e_X10_take_82 (sc : SC) (p0 : Nat) (x1 : Int32) (x2 : Int32) (y0 : Int32) (y1 : Int32) (h : AH) : Run sc n_X10_take 82 [aD p0, aI x1, aI x2] none [aI y1, aI y0] h = Run sc n_X10_take (if y1 ≤ y0 then 129 else 85) [aD p0, aI x1, aI x2] none [] h := by
  exact q_icmp mt_X10_take dX10_take_82 (fun _ _ _ _ => rfl) rfl
theorem e_X10_take_94 (sc : SC) (p0 : Nat) (x1 : Int32) (x2 : Int32) (y0 : Int32) (h : AH) : Run sc n_X10_take 94 [aD p0, aI x1, aI x2] none [aI y0] h = Run sc n_X10_take (if y0 = 0 then 123 else 97) [aD p0, aI x1, aI x2] none [] h := by
  exact q_if mt_X10_take dX10_take_94 (fun _ _ _ _ => rfl) rfl
theorem e_X10_take_120 (sc : SC) (p0 : Nat) (x1 : Int32) (x2 : Int32) (q0 : Nat) (y1 : Int32) (y2 : Int32) (h : AH) : Run sc n_X10_take 120 [aD p0, aI x1, aI x2] none [aI y2, aI y1, aD q0] h = bO (stI h (fun t => t == 0) q0 y1 (y2 - (nI 1))) (fun z => Run sc n_X10_take 123 [aD p0, aI x1, aI x2] none [] z) := by
  refine (s_go mt_X10_take dX10_take_120 rfl).trans ?_
  refine (s_go mt_X10_take dX10_take_121 rfl).trans ?_
  exact q_iastore mt_X10_take dX10_take_122
theorem e_X10_take_10 (sc : SC) (p0 : Nat) (x1 : Int32) (v2 : AV) (h : AH) : Run sc n_X10_take 10 [aD p0, aI x1, v2] none [] h = Run sc n_X10_take 12 [aD p0, aI x1, aI x1] none [] h := by
  refine (s_go mt_X10_take dX10_take_10 rfl).trans ?_
  refine (s_go mt_X10_take dX10_take_11 rfl).trans ?_
  exact rfl
theorem e_X10_take_48 (sc : SC) (p0 : Nat) (x1 : Int32) (x2 : Int32) (q0 : Nat) (y1 : Int32) (y2 : Int32) (y3 : Int32) (y4 : Int32) (h : AH) : Run sc n_X10_take 48 [aD p0, aI x1, aI x2] none [aI y4, aI y3, aI y2, aI y1, aD q0] h = bI (rOK sc h (aD p0) 12 = true) (bC (Call sc n_X10_at [aD p0, aI (x2 + (nI 1)), aI (nI 3)] h) (fun v z => Run sc n_X10_take 56 [aD p0, aI x1, aI x2] none (v.toList ++ [aI y4, aI y3, aI y2, aI y1, aD q0]) z) (fun E z => some (.inr E, z))) := by
  refine (s_go mt_X10_take dX10_take_48 rfl).trans ?_
  refine (s_go mt_X10_take dX10_take_49 rfl).trans ?_
  refine (s_go mt_X10_take dX10_take_50 rfl).trans ?_
  refine (s_go mt_X10_take dX10_take_51 rfl).trans ?_
  refine (s_go mt_X10_take dX10_take_52 rfl).trans ?_
  exact q_cV mt_X10_take dX10_take_53 rfl mt_X10_at rfl rfl rfl
theorem e_X10_take_56 (sc : SC) (p0 : Nat) (x1 : Int32) (x2 : Int32) (q0 : Nat) (y1 : Int32) (y2 : Int32) (y3 : Int32) (y4 : Int32) (y5 : Int32) (h : AH) : Run sc n_X10_take 56 [aD p0, aI x1, aI x2] none [aI y5, aI y4, aI y3, aI y2, aI y1, aD q0] h = bI (rOK sc h (aD p0) 12 = true) (bC (Call sc n_X10_at [aD p0, aI (x2 + (nI 1)), aI (nI 4)] h) (fun v z => Run sc n_X10_take 64 [aD p0, aI x1, aI x2] none (v.toList ++ [aI y5, aI y4, aI y3, aI y2, aI y1, aD q0]) z) (fun E z => some (.inr E, z))) := by
  refine (s_go mt_X10_take dX10_take_56 rfl).trans ?_
  refine (s_go mt_X10_take dX10_take_57 rfl).trans ?_
  refine (s_go mt_X10_take dX10_take_58 rfl).trans ?_
  refine (s_go mt_X10_take dX10_take_59 rfl).trans ?_
  refine (s_go mt_X10_take dX10_take_60 rfl).trans ?_
  exact q_cV mt_X10_take dX10_take_61 rfl mt_X10_at rfl rfl rfl
theorem e_X10_take_64 (sc : SC) (p0 : Nat) (x1 : Int32) (x2 : Int32) (q0 : Nat) (y1 : Int32) (y2 : Int32) (y3 : Int32) (y4 : Int32) (y5 : Int32) (y6 : Int32) (h : AH) : Run sc n_X10_take 64 [aD p0, aI x1, aI x2] none [aI y6, aI y5, aI y4, aI y3, aI y2, aI y1, aD q0] h = bI (rOK sc h (aD q0) 12 = true) (bC (Call sc n_X10_put [aD q0, aI y1, aI y2, aI y3, aI y4, aI y5, aI y6] h) (fun v z => Run sc n_X10_take 67 [aD p0, aI x1, aI x2] none (v.toList ++ []) z) (fun E z => some (.inr E, z))) := by
  exact q_cV mt_X10_take dX10_take_64 rfl mt_X10_put rfl rfl rfl
theorem e_X10_take_67 (sc : SC) (p0 : Nat) (x1 : Int32) (x2 : Int32) (h : AH) : Run sc n_X10_take 67 [aD p0, aI x1, aI x2] none [] h = Run sc n_X10_take 12 [aD p0, aI x1, aI (x2 + nI 1)] none [] h := by
  refine (s_go mt_X10_take dX10_take_67 rfl).trans ?_
  refine (s_go mt_X10_take dX10_take_70 rfl).trans ?_
  exact rfl
/-! BranchSlotFillerModel.doFill(III)I -/
theorem e_X10_doFill_0 (sc : SC) (p0 : Nat) (x1 : Int32) (x2 : Int32) (x3 : Int32) (h : AH) : Run sc n_X10_doFill 0 [aD p0, aI x1, aI x2, aI x3] none [] h = bI (rOK sc h (aD p0) 12 = true) (bC (Call sc n_X10_at [aD p0, aI x3, aI (nI 0)] h) (fun v z => Run sc n_X10_doFill 10 [aD p0, aI x1, aI x2, aI x3] none (v.toList ++ [aI (x1 + (nI 1)), aD p0]) z) (fun E z => some (.inr E, z))) := by
  refine (s_go mt_X10_doFill dX10_doFill_0 rfl).trans ?_
  refine (s_go mt_X10_doFill dX10_doFill_1 rfl).trans ?_
  refine (s_go mt_X10_doFill dX10_doFill_2 rfl).trans ?_
  refine (s_go mt_X10_doFill dX10_doFill_3 rfl).trans ?_
  refine (s_go mt_X10_doFill dX10_doFill_4 rfl).trans ?_
  refine (s_go mt_X10_doFill dX10_doFill_5 rfl).trans ?_
  refine (s_go mt_X10_doFill dX10_doFill_6 rfl).trans ?_
  exact q_cV mt_X10_doFill dX10_doFill_7 rfl mt_X10_at rfl rfl rfl
theorem e_X10_doFill_48 (sc : SC) (p0 : Nat) (x1 : Int32) (x2 : Int32) (x3 : Int32) (q0 : Nat) (y1 : Int32) (h : AH) : Run sc n_X10_doFill 48 [aD p0, aI x1, aI x2, aI x3] none [aI y1, aD q0] h = bI (rOK sc h (aD p0) 12 = true) (bC (Call sc n_X10_at [aD p0, aI x1, aI (nI 0)] h) (fun v z => Run sc n_X10_doFill 54 [aD p0, aI x1, aI x2, aI x3] none (v.toList ++ [aI y1, aD q0]) z) (fun E z => some (.inr E, z))) := by
  refine (s_go mt_X10_doFill dX10_doFill_48 rfl).trans ?_
  refine (s_go mt_X10_doFill dX10_doFill_49 rfl).trans ?_
  refine (s_go mt_X10_doFill dX10_doFill_50 rfl).trans ?_
  exact q_cV mt_X10_doFill dX10_doFill_51 rfl mt_X10_at rfl rfl rfl
theorem e_X10_doFill_59 (sc : SC) (p0 : Nat) (x1 : Int32) (x2 : Int32) (x3 : Int32) (q0 : Nat) (y1 : Int32) (h : AH) : Run sc n_X10_doFill 59 [aD p0, aI x1, aI x2, aI x3] none [aI y1, aD q0] h = Run sc n_X10_doFill 64 [aD p0, aI x1, aI x2, aI x3] none [aI (nI 1), aI y1, aD q0] h := by
  refine (s_go mt_X10_doFill dX10_doFill_59 rfl).trans ?_
  refine (s_go mt_X10_doFill dX10_doFill_60 rfl).trans ?_
  exact rfl
theorem e_X10_doFill_63 (sc : SC) (p0 : Nat) (x1 : Int32) (x2 : Int32) (x3 : Int32) (q0 : Nat) (y1 : Int32) (h : AH) : Run sc n_X10_doFill 63 [aD p0, aI x1, aI x2, aI x3] none [aI y1, aD q0] h = Run sc n_X10_doFill 64 [aD p0, aI x1, aI x2, aI x3] none [aI (nI 0), aI y1, aD q0] h := by
  refine (s_go mt_X10_doFill dX10_doFill_63 rfl).trans ?_
  exact rfl
theorem e_X10_doFill_64 (sc : SC) (p0 : Nat) (x1 : Int32) (x2 : Int32) (x3 : Int32) (q0 : Nat) (y1 : Int32) (y2 : Int32) (h : AH) : Run sc n_X10_doFill 64 [aD p0, aI x1, aI x2, aI x3] none [aI y2, aI y1, aD q0] h = bO (stI h (fun t => t == 0) q0 y1 y2) (fun z => Run sc n_X10_doFill 65 [aD p0, aI x1, aI x2, aI x3] none [] z) := by
  exact q_iastore mt_X10_doFill dX10_doFill_64
theorem e_X10_doFill_70 (sc : SC) (p0 : Nat) (x1 : Int32) (x2 : Int32) (x3 : Int32) (h : AH) : Run sc n_X10_doFill 70 [aD p0, aI x1, aI x2, aI x3] none [] h = bF (getF sc h (aD p0) 12 3) (fun z => Run sc n_X10_doFill 74 [aD p0, aI x1, aI x2, aI x3] none [z] h) := by
  refine (s_go mt_X10_doFill dX10_doFill_70 rfl).trans ?_
  exact q_getfield mt_X10_doFill dX10_doFill_71 rfl
theorem e_X10_doFill_87 (sc : SC) (p0 : Nat) (x1 : Int32) (x2 : Int32) (x3 : Int32) (h : AH) : Run sc n_X10_doFill 87 [aD p0, aI x1, aI x2, aI x3] none [] h = bI (rOK sc h (aD p0) 12 = true) (bC (Call sc n_X10_take [aD p0, aI x3] h) (fun v z => Run sc n_X10_doFill 92 [aD p0, aI x1, aI x2, aI x3] none (v.toList ++ []) z) (fun E z => some (.inr E, z))) := by
  refine (s_go mt_X10_doFill dX10_doFill_87 rfl).trans ?_
  refine (s_go mt_X10_doFill dX10_doFill_88 rfl).trans ?_
  exact q_cV mt_X10_doFill dX10_doFill_89 rfl mt_X10_take rfl rfl rfl
theorem e_X10_doFill_96 (sc : SC) (p0 : Nat) (x1 : Int32) (x2 : Int32) (x3 : Int32) (h : AH) : Run sc n_X10_doFill 96 [aD p0, aI x1, aI x2, aI x3] none [] h = Run sc n_X10_doFill 103 [aD p0, aI x1, aI x2, aI x3] none [aI (x1 - (nI 1))] h := by
  refine (s_go mt_X10_doFill dX10_doFill_96 rfl).trans ?_
  refine (s_go mt_X10_doFill dX10_doFill_97 rfl).trans ?_
  refine (s_go mt_X10_doFill dX10_doFill_98 rfl).trans ?_
  refine (s_go mt_X10_doFill dX10_doFill_99 rfl).trans ?_
  exact rfl
theorem e_X10_doFill_102 (sc : SC) (p0 : Nat) (x1 : Int32) (x2 : Int32) (x3 : Int32) (h : AH) : Run sc n_X10_doFill 102 [aD p0, aI x1, aI x2, aI x3] none [] h = Run sc n_X10_doFill 103 [aD p0, aI x1, aI x2, aI x3] none [aI x1] h := by
  refine (s_go mt_X10_doFill dX10_doFill_102 rfl).trans ?_
  exact rfl
theorem e_X10_doFill_103 (sc : SC) (p0 : Nat) (x1 : Int32) (x2 : Int32) (x3 : Int32) (y0 : Int32) (h : AH) : Run sc n_X10_doFill 103 [aD p0, aI x1, aI x2, aI x3] none [aI y0] h = some (.inl (some (aI y0)), h) := by
  exact q_ret (c := (some (aI y0), h)) mt_X10_doFill dX10_doFill_103 rfl
theorem e_X10_doFill_10 (sc : SC) (p0 : Nat) (x1 : Int32) (x2 : Int32) (x3 : Int32) (q0 : Nat) (y1 : Int32) (y2 : Int32) (h : AH) : Run sc n_X10_doFill 10 [aD p0, aI x1, aI x2, aI x3] none [aI y2, aI y1, aD q0] h = bI (rOK sc h (aD p0) 12 = true) (bC (Call sc n_X10_at [aD p0, aI x3, aI (nI 1)] h) (fun v z => Run sc n_X10_doFill 16 [aD p0, aI x1, aI x2, aI x3] none (v.toList ++ [aI y2, aI y1, aD q0]) z) (fun E z => some (.inr E, z))) := by
  refine (s_go mt_X10_doFill dX10_doFill_10 rfl).trans ?_
  refine (s_go mt_X10_doFill dX10_doFill_11 rfl).trans ?_
  refine (s_go mt_X10_doFill dX10_doFill_12 rfl).trans ?_
  exact q_cV mt_X10_doFill dX10_doFill_13 rfl mt_X10_at rfl rfl rfl
theorem e_X10_doFill_54 (sc : SC) (p0 : Nat) (x1 : Int32) (x2 : Int32) (x3 : Int32) (q0 : Nat) (y1 : Int32) (y2 : Int32) (h : AH) : Run sc n_X10_doFill 54 [aD p0, aI x1, aI x2, aI x3] none [aI y2, aI y1, aD q0] h = Run sc n_X10_doFill (if y2 = (nI 10) then 63 else 59) [aD p0, aI x1, aI x2, aI x3] none [aI y1, aD q0] h := by
  refine (s_go mt_X10_doFill dX10_doFill_54 rfl).trans ?_
  exact q_icmp mt_X10_doFill dX10_doFill_56 (fun _ _ _ _ => rfl) rfl
theorem e_X10_doFill_65 (sc : SC) (p0 : Nat) (x1 : Int32) (x2 : Int32) (x3 : Int32) (h : AH) : Run sc n_X10_doFill 65 [aD p0, aI x1, aI x2, aI x3] none [] h = Run sc n_X10_doFill (if ¬ x2 = (nI 1) then 87 else 70) [aD p0, aI x1, aI x2, aI x3] none [] h := by
  refine (s_go mt_X10_doFill dX10_doFill_65 rfl).trans ?_
  refine (s_go mt_X10_doFill dX10_doFill_66 rfl).trans ?_
  exact q_icmp mt_X10_doFill dX10_doFill_67 (fun _ _ _ _ => rfl) rfl
theorem e_X10_doFill_74 (sc : SC) (p0 : Nat) (x1 : Int32) (x2 : Int32) (x3 : Int32) (q0 : Nat) (h : AH) : Run sc n_X10_doFill 74 [aD p0, aI x1, aI x2, aI x3] none [aD q0] h = bO (stI h (fun t => t == 0) q0 (((nI 1) + ((nI 5) * x1)) + (nI 3)) (x3 + (nI 1))) (fun z => Run sc n_X10_doFill 85 [aD p0, aI x1, aI x2, aI x3] none [] z) := by
  refine (s_go mt_X10_doFill dX10_doFill_74 rfl).trans ?_
  refine (s_go mt_X10_doFill dX10_doFill_75 rfl).trans ?_
  refine (s_go mt_X10_doFill dX10_doFill_76 rfl).trans ?_
  refine (s_go mt_X10_doFill dX10_doFill_77 rfl).trans ?_
  refine (s_go mt_X10_doFill dX10_doFill_78 rfl).trans ?_
  refine (s_go mt_X10_doFill dX10_doFill_79 rfl).trans ?_
  refine (s_go mt_X10_doFill dX10_doFill_80 rfl).trans ?_
  refine (s_go mt_X10_doFill dX10_doFill_81 rfl).trans ?_
  refine (s_go mt_X10_doFill dX10_doFill_82 rfl).trans ?_
  refine (s_go mt_X10_doFill dX10_doFill_83 rfl).trans ?_
  exact q_iastore mt_X10_doFill dX10_doFill_84
theorem e_X10_doFill_92 (sc : SC) (p0 : Nat) (x1 : Int32) (x2 : Int32) (x3 : Int32) (h : AH) : Run sc n_X10_doFill 92 [aD p0, aI x1, aI x2, aI x3] none [] h = Run sc n_X10_doFill (if ¬ x2 = 0 then 102 else 96) [aD p0, aI x1, aI x2, aI x3] none [] h := by
  refine (s_go mt_X10_doFill dX10_doFill_92 rfl).trans ?_
  exact q_if mt_X10_doFill dX10_doFill_93 (fun _ _ _ _ => rfl) rfl
theorem e_X10_doFill_16 (sc : SC) (p0 : Nat) (x1 : Int32) (x2 : Int32) (x3 : Int32) (q0 : Nat) (y1 : Int32) (y2 : Int32) (y3 : Int32) (h : AH) : Run sc n_X10_doFill 16 [aD p0, aI x1, aI x2, aI x3] none [aI y3, aI y2, aI y1, aD q0] h = bI (rOK sc h (aD p0) 12 = true) (bC (Call sc n_X10_at [aD p0, aI x3, aI (nI 2)] h) (fun v z => Run sc n_X10_doFill 22 [aD p0, aI x1, aI x2, aI x3] none (v.toList ++ [aI y3, aI y2, aI y1, aD q0]) z) (fun E z => some (.inr E, z))) := by
  refine (s_go mt_X10_doFill dX10_doFill_16 rfl).trans ?_
  refine (s_go mt_X10_doFill dX10_doFill_17 rfl).trans ?_
  refine (s_go mt_X10_doFill dX10_doFill_18 rfl).trans ?_
  exact q_cV mt_X10_doFill dX10_doFill_19 rfl mt_X10_at rfl rfl rfl
theorem e_X10_doFill_85 (sc : SC) (p0 : Nat) (x1 : Int32) (x2 : Int32) (x3 : Int32) (h : AH) : Run sc n_X10_doFill 85 [aD p0, aI x1, aI x2, aI x3] none [] h = some (.inl (some (aI x1)), h) := by
  refine (s_go mt_X10_doFill dX10_doFill_85 rfl).trans ?_
  exact q_ret (c := (some (aI x1), h)) mt_X10_doFill dX10_doFill_86 rfl
theorem e_X10_doFill_22 (sc : SC) (p0 : Nat) (x1 : Int32) (x2 : Int32) (x3 : Int32) (q0 : Nat) (y1 : Int32) (y2 : Int32) (y3 : Int32) (y4 : Int32) (h : AH) : Run sc n_X10_doFill 22 [aD p0, aI x1, aI x2, aI x3] none [aI y4, aI y3, aI y2, aI y1, aD q0] h = bI (rOK sc h (aD p0) 12 = true) (bC (Call sc n_X10_at [aD p0, aI x3, aI (nI 3)] h) (fun v z => Run sc n_X10_doFill 28 [aD p0, aI x1, aI x2, aI x3] none (v.toList ++ [aI y4, aI y3, aI y2, aI y1, aD q0]) z) (fun E z => some (.inr E, z))) := by
  refine (s_go mt_X10_doFill dX10_doFill_22 rfl).trans ?_
  refine (s_go mt_X10_doFill dX10_doFill_23 rfl).trans ?_
  refine (s_go mt_X10_doFill dX10_doFill_24 rfl).trans ?_
  exact q_cV mt_X10_doFill dX10_doFill_25 rfl mt_X10_at rfl rfl rfl
theorem e_X10_doFill_28 (sc : SC) (p0 : Nat) (x1 : Int32) (x2 : Int32) (x3 : Int32) (q0 : Nat) (y1 : Int32) (y2 : Int32) (y3 : Int32) (y4 : Int32) (y5 : Int32) (h : AH) : Run sc n_X10_doFill 28 [aD p0, aI x1, aI x2, aI x3] none [aI y5, aI y4, aI y3, aI y2, aI y1, aD q0] h = bI (rOK sc h (aD q0) 12 = true) (bC (Call sc n_X10_put [aD q0, aI y1, aI y2, aI y3, aI y4, aI y5, aI (nI 0)] h) (fun v z => Run sc n_X10_doFill 32 [aD p0, aI x1, aI x2, aI x3] none (v.toList ++ []) z) (fun E z => some (.inr E, z))) := by
  refine (s_go mt_X10_doFill dX10_doFill_28 rfl).trans ?_
  exact q_cV mt_X10_doFill dX10_doFill_29 rfl mt_X10_put rfl rfl rfl
theorem e_X10_doFill_32 (sc : SC) (p0 : Nat) (x1 : Int32) (x2 : Int32) (x3 : Int32) (h : AH) : Run sc n_X10_doFill 32 [aD p0, aI x1, aI x2, aI x3] none [] h = bF (getF sc h (aD p0) 12 3) (fun z => Run sc n_X10_doFill 36 [aD p0, aI x1, aI x2, aI x3] none [z] h) := by
  refine (s_go mt_X10_doFill dX10_doFill_32 rfl).trans ?_
  exact q_getfield mt_X10_doFill dX10_doFill_33 rfl
theorem e_X10_doFill_36 (sc : SC) (p0 : Nat) (x1 : Int32) (x2 : Int32) (x3 : Int32) (q0 : Nat) (h : AH) : Run sc n_X10_doFill 36 [aD p0, aI x1, aI x2, aI x3] none [aD q0] h = Run sc n_X10_doFill (if ¬ x2 = (nI 1) then 63 else 48) [aD p0, aI x1, aI x2, aI x3] none [aI (((nI 1) + ((nI 5) * x1)) + (nI 4)), aD q0] h := by
  refine (s_go mt_X10_doFill dX10_doFill_36 rfl).trans ?_
  refine (s_go mt_X10_doFill dX10_doFill_37 rfl).trans ?_
  refine (s_go mt_X10_doFill dX10_doFill_38 rfl).trans ?_
  refine (s_go mt_X10_doFill dX10_doFill_39 rfl).trans ?_
  refine (s_go mt_X10_doFill dX10_doFill_40 rfl).trans ?_
  refine (s_go mt_X10_doFill dX10_doFill_41 rfl).trans ?_
  refine (s_go mt_X10_doFill dX10_doFill_42 rfl).trans ?_
  refine (s_go mt_X10_doFill dX10_doFill_43 rfl).trans ?_
  refine (s_go mt_X10_doFill dX10_doFill_44 rfl).trans ?_
  exact q_icmp mt_X10_doFill dX10_doFill_45 (fun _ _ _ _ => rfl) rfl
/-! BranchSlotFillerModel.fill(II)I -/
theorem e_X10_fill_0 (sc : SC) (p0 : Nat) (x1 : Int32) (x2 : Int32) (h : AH) : Run sc n_X10_fill 0 [aD p0, aI x1, aI x2] none [] h = bI (rOK sc h (aD p0) 12 = true) (bC (Call sc n_X10_problem [aD p0, aI x1, aI x2] h) (fun v z => Run sc n_X10_fill 7 [aD p0, aI x1, aI x2] none (v.toList ++ [aD p0]) z) (fun E z => some (.inr E, z))) := by
  refine (s_go mt_X10_fill dX10_fill_0 rfl).trans ?_
  refine (s_go mt_X10_fill dX10_fill_1 rfl).trans ?_
  refine (s_go mt_X10_fill dX10_fill_2 rfl).trans ?_
  refine (s_go mt_X10_fill dX10_fill_3 rfl).trans ?_
  exact q_cV mt_X10_fill dX10_fill_4 rfl mt_X10_problem rfl rfl rfl
theorem e_X10_fill_17 (sc : SC) (p0 : Nat) (x1 : Int32) (x2 : Int32) (h : AH) : Run sc n_X10_fill 17 [aD p0, aI x1, aI x2] none [] h = some (.inl (some (aI (nI 0))), h) := by
  refine (s_go mt_X10_fill dX10_fill_17 rfl).trans ?_
  exact q_ret (c := (some (aI (nI 0)), h)) mt_X10_fill dX10_fill_18 rfl
theorem e_X10_fill_19 (sc : SC) (p0 : Nat) (x1 : Int32) (x2 : Int32) (h : AH) : Run sc n_X10_fill 19 [aD p0, aI x1, aI x2] none [] h = bI (rOK sc h (aD p0) 12 = true) (bC (Call sc n_X10_remember [aD p0] h) (fun v z => Run sc n_X10_fill 23 [aD p0, aI x1, aI x2] none (v.toList ++ []) z) (fun E z => some (.inr E, z))) := by
  refine (s_go mt_X10_fill dX10_fill_19 rfl).trans ?_
  exact q_cV mt_X10_fill dX10_fill_20 rfl mt_X10_remember rfl rfl rfl
theorem e_X10_fill_7 (sc : SC) (p0 : Nat) (x1 : Int32) (x2 : Int32) (q0 : Nat) (y1 : Int32) (h : AH) : Run sc n_X10_fill 7 [aD p0, aI x1, aI x2] none [aI y1, aD q0] h = bO (putF h q0 12 0 0 (aI y1)) (fun z => Run sc n_X10_fill 10 [aD p0, aI x1, aI x2] none [] z) := by
  exact q_putfield mt_X10_fill dX10_fill_7 rfl rfl rfl rfl
theorem e_X10_fill_23 (sc : SC) (p0 : Nat) (x1 : Int32) (x2 : Int32) (h : AH) : Run sc n_X10_fill 23 [aD p0, aI x1, aI x2] none [] h = bI (rOK sc h (aD p0) 12 = true) (bC (Call sc n_X10_candidateOf [aD p0, aI x1, aI x2] h) (fun v z => Run sc n_X10_fill 32 [aD p0, aI x1, aI x2] none (v.toList ++ [aI x2, aI x1, aD p0]) z) (fun E z => some (.inr E, z))) := by
  refine (s_go mt_X10_fill dX10_fill_23 rfl).trans ?_
  refine (s_go mt_X10_fill dX10_fill_24 rfl).trans ?_
  refine (s_go mt_X10_fill dX10_fill_25 rfl).trans ?_
  refine (s_go mt_X10_fill dX10_fill_26 rfl).trans ?_
  refine (s_go mt_X10_fill dX10_fill_27 rfl).trans ?_
  refine (s_go mt_X10_fill dX10_fill_28 rfl).trans ?_
  exact q_cV mt_X10_fill dX10_fill_29 rfl mt_X10_candidateOf rfl rfl rfl
theorem e_X10_fill_10 (sc : SC) (p0 : Nat) (x1 : Int32) (x2 : Int32) (h : AH) : Run sc n_X10_fill 10 [aD p0, aI x1, aI x2] none [] h = bF (getF sc h (aD p0) 12 0) (fun z => Run sc n_X10_fill 14 [aD p0, aI x1, aI x2] none [z] h) := by
  refine (s_go mt_X10_fill dX10_fill_10 rfl).trans ?_
  exact q_getfield mt_X10_fill dX10_fill_11 rfl
theorem e_X10_fill_32 (sc : SC) (p0 : Nat) (x1 : Int32) (x2 : Int32) (q0 : Nat) (y1 : Int32) (y2 : Int32) (y3 : Int32) (h : AH) : Run sc n_X10_fill 32 [aD p0, aI x1, aI x2] none [aI y3, aI y2, aI y1, aD q0] h = bI (rOK sc h (aD q0) 12 = true) (bC (Call sc n_X10_doFill [aD q0, aI y1, aI y2, aI y3] h) (fun v z => Run sc n_X10_fill 35 [aD p0, aI x1, aI x2] none (v.toList ++ []) z) (fun E z => some (.inr E, z))) := by
  exact q_cV mt_X10_fill dX10_fill_32 rfl mt_X10_doFill rfl rfl rfl
theorem e_X10_fill_14 (sc : SC) (p0 : Nat) (x1 : Int32) (x2 : Int32) (y0 : Int32) (h : AH) : Run sc n_X10_fill 14 [aD p0, aI x1, aI x2] none [aI y0] h = Run sc n_X10_fill (if y0 = 0 then 19 else 17) [aD p0, aI x1, aI x2] none [] h := by
  exact q_if mt_X10_fill dX10_fill_14 (fun _ _ _ _ => rfl) rfl
theorem e_X10_fill_35 (sc : SC) (p0 : Nat) (x1 : Int32) (x2 : Int32) (y0 : Int32) (h : AH) : Run sc n_X10_fill 35 [aD p0, aI x1, aI x2] none [aI y0] h = some (.inl (some (aI y0)), h) := by
  exact q_ret (c := (some (aI y0), h)) mt_X10_fill dX10_fill_35 rfl
/-! BranchSlotFillerModel.fillAll(II)I -/
theorem e_X10_fillAll_0 (sc : SC) (p0 : Nat) (x1 : Int32) (x2 : Int32) (v3 : AV) (v4 : AV) (v5 : AV) (v6 : AV) (v7 : AV) (v8 : AV) (h : AH) : Run sc n_X10_fillAll 0 [aD p0, aI x1, aI x2, v3, v4, v5, v6, v7, v8] none [] h = bO (putF h p0 12 0 0 (aI (nI 0))) (fun z => Run sc n_X10_fillAll 5 [aD p0, aI x1, aI x2, v3, v4, v5, v6, v7, v8] none [] z) := by
  refine (s_go mt_X10_fillAll dX10_fillAll_0 rfl).trans ?_
  refine (s_go mt_X10_fillAll dX10_fillAll_1 rfl).trans ?_
  exact q_putfield mt_X10_fillAll dX10_fillAll_2 rfl rfl rfl rfl
theorem e_X10_fillAll_14 (sc : SC) (p0 : Nat) (x1 : Int32) (x2 : Int32) (v3 : AV) (v4 : AV) (v5 : AV) (v6 : AV) (v7 : AV) (v8 : AV) (h : AH) : Run sc n_X10_fillAll 14 [aD p0, aI x1, aI x2, v3, v4, v5, v6, v7, v8] none [] h = bC (Call sc n_X10_isIn [aI x2, aI (nI 0), aI (nI 2)] h) (fun v z => Run sc n_X10_fillAll 20 [aD p0, aI x1, aI x2, v3, v4, v5, v6, v7, v8] none (v.toList ++ []) z) (fun E z => some (.inr E, z)) := by
  refine (s_go mt_X10_fillAll dX10_fillAll_14 rfl).trans ?_
  refine (s_go mt_X10_fillAll dX10_fillAll_15 rfl).trans ?_
  refine (s_go mt_X10_fillAll dX10_fillAll_16 rfl).trans ?_
  exact q_cS mt_X10_fillAll dX10_fillAll_17 rfl mt_X10_isIn rfl rfl
theorem e_X10_fillAll_23 (sc : SC) (p0 : Nat) (x1 : Int32) (x2 : Int32) (v3 : AV) (v4 : AV) (v5 : AV) (v6 : AV) (v7 : AV) (v8 : AV) (h : AH) : Run sc n_X10_fillAll 23 [aD p0, aI x1, aI x2, v3, v4, v5, v6, v7, v8] none [] h = Run sc n_X10_fillAll (if ¬ x1 = x2 then 34 else 28) [aD p0, aI x1, aI x2, v3, v4, v5, v6, v7, v8] none [] h := by
  refine (s_go mt_X10_fillAll dX10_fillAll_23 rfl).trans ?_
  refine (s_go mt_X10_fillAll dX10_fillAll_24 rfl).trans ?_
  exact q_icmp mt_X10_fillAll dX10_fillAll_25 (fun _ _ _ _ => rfl) rfl
theorem e_X10_fillAll_28 (sc : SC) (p0 : Nat) (x1 : Int32) (x2 : Int32) (v3 : AV) (v4 : AV) (v5 : AV) (v6 : AV) (v7 : AV) (v8 : AV) (h : AH) : Run sc n_X10_fillAll 28 [aD p0, aI x1, aI x2, v3, v4, v5, v6, v7, v8] none [] h = bI (rOK sc h (aD p0) 12 = true) (bC (Call sc n_X10_fail [aD p0, aI (nI 1)] h) (fun v z => Run sc n_X10_fillAll 33 [aD p0, aI x1, aI x2, v3, v4, v5, v6, v7, v8] none (v.toList ++ []) z) (fun E z => some (.inr E, z))) := by
  refine (s_go mt_X10_fillAll dX10_fillAll_28 rfl).trans ?_
  refine (s_go mt_X10_fillAll dX10_fillAll_29 rfl).trans ?_
  exact q_cV mt_X10_fillAll dX10_fillAll_30 rfl mt_X10_fail rfl rfl rfl
theorem e_X10_fillAll_34 (sc : SC) (p0 : Nat) (x1 : Int32) (x2 : Int32) (v3 : AV) (v4 : AV) (v5 : AV) (v6 : AV) (v7 : AV) (v8 : AV) (h : AH) : Run sc n_X10_fillAll 34 [aD p0, aI x1, aI x2, v3, v4, v5, v6, v7, v8] none [] h = bI (rOK sc h (aD p0) 12 = true) (bC (Call sc n_X10_remember [aD p0] h) (fun v z => Run sc n_X10_fillAll 38 [aD p0, aI x1, aI x2, v3, v4, v5, v6, v7, v8] none (v.toList ++ []) z) (fun E z => some (.inr E, z))) := by
  refine (s_go mt_X10_fillAll dX10_fillAll_34 rfl).trans ?_
  exact q_cV mt_X10_fillAll dX10_fillAll_35 rfl mt_X10_remember rfl rfl rfl
theorem e_X10_fillAll_43 (sc : SC) (p0 : Nat) (x1 : Int32) (x2 : Int32) (x3 : Int32) (x4 : Int32) (v5 : AV) (v6 : AV) (v7 : AV) (v8 : AV) (h : AH) : Run sc n_X10_fillAll 43 [aD p0, aI x1, aI x2, aI x3, aI x4, v5, v6, v7, v8] none [] h = bI (rOK sc h (aD p0) 12 = true) (bC (Call sc n_X10_entryMany [aD p0] h) (fun v z => Run sc n_X10_fillAll 49 [aD p0, aI x1, aI x2, aI x3, aI x4, v5, v6, v7, v8] none (v.toList ++ [aI x4]) z) (fun E z => some (.inr E, z))) := by
  refine (s_go mt_X10_fillAll dX10_fillAll_43 rfl).trans ?_
  refine (s_go mt_X10_fillAll dX10_fillAll_45 rfl).trans ?_
  exact q_cV mt_X10_fillAll dX10_fillAll_46 rfl mt_X10_entryMany rfl rfl rfl
theorem e_X10_fillAll_52 (sc : SC) (p0 : Nat) (x1 : Int32) (x2 : Int32) (x3 : Int32) (x4 : Int32) (v5 : AV) (v6 : AV) (v7 : AV) (v8 : AV) (h : AH) : Run sc n_X10_fillAll 52 [aD p0, aI x1, aI x2, aI x3, aI x4, v5, v6, v7, v8] none [] h = bI (rOK sc h (aD p0) 12 = true) (bC (Call sc n_X10_at [aD p0, aI x4, aI (nI 0)] h) (fun v z => Run sc n_X10_fillAll 59 [aD p0, aI x1, aI x2, aI x3, aI x4, v5, v6, v7, v8] none (v.toList ++ []) z) (fun E z => some (.inr E, z))) := by
  refine (s_go mt_X10_fillAll dX10_fillAll_52 rfl).trans ?_
  refine (s_go mt_X10_fillAll dX10_fillAll_53 rfl).trans ?_
  refine (s_go mt_X10_fillAll dX10_fillAll_55 rfl).trans ?_
  exact q_cV mt_X10_fillAll dX10_fillAll_56 rfl mt_X10_at rfl rfl rfl
theorem e_X10_fillAll_65 (sc : SC) (p0 : Nat) (x1 : Int32) (x2 : Int32) (x3 : Int32) (x4 : Int32) (v5 : AV) (v6 : AV) (v7 : AV) (v8 : AV) (h : AH) : Run sc n_X10_fillAll 65 [aD p0, aI x1, aI x2, aI x3, aI x4, v5, v6, v7, v8] none [] h = Run sc n_X10_fillAll 72 [aD p0, aI x1, aI x2, aI x3, aI x4, aI x4, aI (nI 0), v7, v8] none [] h := by
  refine (s_go mt_X10_fillAll dX10_fillAll_65 rfl).trans ?_
  refine (s_go mt_X10_fillAll dX10_fillAll_67 rfl).trans ?_
  refine (s_go mt_X10_fillAll dX10_fillAll_69 rfl).trans ?_
  refine (s_go mt_X10_fillAll dX10_fillAll_70 rfl).trans ?_
  exact rfl
theorem e_X10_fillAll_72 (sc : SC) (p0 : Nat) (x1 : Int32) (x2 : Int32) (x3 : Int32) (x4 : Int32) (x5 : Int32) (x6 : Int32) (v7 : AV) (v8 : AV) (h : AH) : Run sc n_X10_fillAll 72 [aD p0, aI x1, aI x2, aI x3, aI x4, aI x5, aI x6, v7, v8] none [] h = Run sc n_X10_fillAll (if (nI 3) ≤ x6 then 153 else 78) [aD p0, aI x1, aI x2, aI x3, aI x4, aI x5, aI x6, v7, v8] none [] h := by
  refine (s_go mt_X10_fillAll dX10_fillAll_72 rfl).trans ?_
  refine (s_go mt_X10_fillAll dX10_fillAll_74 rfl).trans ?_
  exact q_icmp mt_X10_fillAll dX10_fillAll_75 (fun _ _ _ _ => rfl) rfl
theorem e_X10_fillAll_78 (sc : SC) (p0 : Nat) (x1 : Int32) (x2 : Int32) (x3 : Int32) (x4 : Int32) (x5 : Int32) (x6 : Int32) (v7 : AV) (v8 : AV) (h : AH) : Run sc n_X10_fillAll 78 [aD p0, aI x1, aI x2, aI x3, aI x4, aI x5, aI x6, v7, v8] none [] h = bI (rOK sc h (aD p0) 12 = true) (bC (Call sc n_X10_at [aD p0, aI (x5 + (nI 1)), aI (nI 0)] h) (fun v z => Run sc n_X10_fillAll 87 [aD p0, aI x1, aI x2, aI x3, aI x4, aI x5, aI x6, v7, v8] none (v.toList ++ []) z) (fun E z => some (.inr E, z))) := by
  refine (s_go mt_X10_fillAll dX10_fillAll_78 rfl).trans ?_
  refine (s_go mt_X10_fillAll dX10_fillAll_79 rfl).trans ?_
  refine (s_go mt_X10_fillAll dX10_fillAll_81 rfl).trans ?_
  refine (s_go mt_X10_fillAll dX10_fillAll_82 rfl).trans ?_
  refine (s_go mt_X10_fillAll dX10_fillAll_83 rfl).trans ?_
  exact q_cV mt_X10_fillAll dX10_fillAll_84 rfl mt_X10_at rfl rfl rfl
theorem e_X10_fillAll_90 (sc : SC) (p0 : Nat) (x1 : Int32) (x2 : Int32) (x3 : Int32) (x4 : Int32) (x5 : Int32) (x6 : Int32) (v7 : AV) (v8 : AV) (h : AH) : Run sc n_X10_fillAll 90 [aD p0, aI x1, aI x2, aI x3, aI x4, aI x5, aI x6, v7, v8] none [] h = Run sc n_X10_fillAll (if ¬ x6 = 0 then 99 else 95) [aD p0, aI x1, aI x2, aI x3, aI x4, aI x5, aI x6, v7, v8] none [] h := by
  refine (s_go mt_X10_fillAll dX10_fillAll_90 rfl).trans ?_
  exact q_if mt_X10_fillAll dX10_fillAll_92 (fun _ _ _ _ => rfl) rfl
theorem e_X10_fillAll_95 (sc : SC) (p0 : Nat) (x1 : Int32) (x2 : Int32) (x3 : Int32) (x4 : Int32) (x5 : Int32) (x6 : Int32) (v7 : AV) (v8 : AV) (h : AH) : Run sc n_X10_fillAll 95 [aD p0, aI x1, aI x2, aI x3, aI x4, aI x5, aI x6, v7, v8] none [] h = Run sc n_X10_fillAll 114 [aD p0, aI x1, aI x2, aI x3, aI x4, aI x5, aI x6, v7, v8] none [aI x1] h := by
  refine (s_go mt_X10_fillAll dX10_fillAll_95 rfl).trans ?_
  refine (s_go mt_X10_fillAll dX10_fillAll_96 rfl).trans ?_
  exact rfl
theorem e_X10_fillAll_99 (sc : SC) (p0 : Nat) (x1 : Int32) (x2 : Int32) (x3 : Int32) (x4 : Int32) (x5 : Int32) (x6 : Int32) (v7 : AV) (v8 : AV) (h : AH) : Run sc n_X10_fillAll 99 [aD p0, aI x1, aI x2, aI x3, aI x4, aI x5, aI x6, v7, v8] none [] h = Run sc n_X10_fillAll (if ¬ x6 = (nI 1) then 109 else 105) [aD p0, aI x1, aI x2, aI x3, aI x4, aI x5, aI x6, v7, v8] none [] h := by
  refine (s_go mt_X10_fillAll dX10_fillAll_99 rfl).trans ?_
  refine (s_go mt_X10_fillAll dX10_fillAll_101 rfl).trans ?_
  exact q_icmp mt_X10_fillAll dX10_fillAll_102 (fun _ _ _ _ => rfl) rfl
theorem e_X10_fillAll_105 (sc : SC) (p0 : Nat) (x1 : Int32) (x2 : Int32) (x3 : Int32) (x4 : Int32) (x5 : Int32) (x6 : Int32) (v7 : AV) (v8 : AV) (h : AH) : Run sc n_X10_fillAll 105 [aD p0, aI x1, aI x2, aI x3, aI x4, aI x5, aI x6, v7, v8] none [] h = Run sc n_X10_fillAll 114 [aD p0, aI x1, aI x2, aI x3, aI x4, aI x5, aI x6, v7, v8] none [aI x2] h := by
  refine (s_go mt_X10_fillAll dX10_fillAll_105 rfl).trans ?_
  refine (s_go mt_X10_fillAll dX10_fillAll_106 rfl).trans ?_
  exact rfl
theorem e_X10_fillAll_109 (sc : SC) (p0 : Nat) (x1 : Int32) (x2 : Int32) (x3 : Int32) (x4 : Int32) (x5 : Int32) (x6 : Int32) (v7 : AV) (v8 : AV) (h : AH) : Run sc n_X10_fillAll 109 [aD p0, aI x1, aI x2, aI x3, aI x4, aI x5, aI x6, v7, v8] none [] h = Run sc n_X10_fillAll 114 [aD p0, aI x1, aI x2, aI x3, aI x4, aI x5, aI x6, v7, v8] none [aI (((nI 3) - x1) - x2)] h := by
  refine (s_go mt_X10_fillAll dX10_fillAll_109 rfl).trans ?_
  refine (s_go mt_X10_fillAll dX10_fillAll_110 rfl).trans ?_
  refine (s_go mt_X10_fillAll dX10_fillAll_111 rfl).trans ?_
  refine (s_go mt_X10_fillAll dX10_fillAll_112 rfl).trans ?_
  refine (s_go mt_X10_fillAll dX10_fillAll_113 rfl).trans ?_
  exact rfl
theorem e_X10_fillAll_114 (sc : SC) (p0 : Nat) (x1 : Int32) (x2 : Int32) (x3 : Int32) (x4 : Int32) (x5 : Int32) (x6 : Int32) (v7 : AV) (v8 : AV) (y0 : Int32) (h : AH) : Run sc n_X10_fillAll 114 [aD p0, aI x1, aI x2, aI x3, aI x4, aI x5, aI x6, v7, v8] none [aI y0] h = bI (rOK sc h (aD p0) 12 = true) (bC (Call sc n_X10_candidateOf [aD p0, aI x5, aI y0] h) (fun v z => Run sc n_X10_fillAll 124 [aD p0, aI x1, aI x2, aI x3, aI x4, aI x5, aI x6, aI y0, v8] none (v.toList ++ []) z) (fun E z => some (.inr E, z))) := by
  refine (s_go mt_X10_fillAll dX10_fillAll_114 rfl).trans ?_
  refine (s_go mt_X10_fillAll dX10_fillAll_116 rfl).trans ?_
  refine (s_go mt_X10_fillAll dX10_fillAll_117 rfl).trans ?_
  refine (s_go mt_X10_fillAll dX10_fillAll_119 rfl).trans ?_
  exact q_cV mt_X10_fillAll dX10_fillAll_121 rfl mt_X10_candidateOf rfl rfl rfl
theorem e_X10_fillAll_132 (sc : SC) (p0 : Nat) (x1 : Int32) (x2 : Int32) (x3 : Int32) (x4 : Int32) (x5 : Int32) (x6 : Int32) (x7 : Int32) (x8 : Int32) (h : AH) : Run sc n_X10_fillAll 132 [aD p0, aI x1, aI x2, aI x3, aI x4, aI x5, aI x6, aI x7, aI x8] none [] h = bI (rOK sc h (aD p0) 12 = true) (bC (Call sc n_X10_doFill [aD p0, aI x5, aI x7, aI x8] h) (fun v z => Run sc n_X10_fillAll 142 [aD p0, aI x1, aI x2, aI x3, aI x4, aI x5, aI x6, aI x7, aI x8] none (v.toList ++ []) z) (fun E z => some (.inr E, z))) := by
  refine (s_go mt_X10_fillAll dX10_fillAll_132 rfl).trans ?_
  refine (s_go mt_X10_fillAll dX10_fillAll_133 rfl).trans ?_
  refine (s_go mt_X10_fillAll dX10_fillAll_135 rfl).trans ?_
  refine (s_go mt_X10_fillAll dX10_fillAll_137 rfl).trans ?_
  exact q_cV mt_X10_fillAll dX10_fillAll_139 rfl mt_X10_doFill rfl rfl rfl
theorem e_X10_fillAll_147 (sc : SC) (p0 : Nat) (x1 : Int32) (x2 : Int32) (x3 : Int32) (x4 : Int32) (x5 : Int32) (x6 : Int32) (x7 : Int32) (x8 : Int32) (h : AH) : Run sc n_X10_fillAll 147 [aD p0, aI x1, aI x2, aI x3, aI x4, aI x5, aI x6, aI x7, aI x8] none [] h = Run sc n_X10_fillAll 72 [aD p0, aI x1, aI x2, aI x3, aI x4, aI x5, aI (x6 + nI 1), aI x7, aI x8] none [] h := by
  refine (s_go mt_X10_fillAll dX10_fillAll_147 rfl).trans ?_
  refine (s_go mt_X10_fillAll dX10_fillAll_150 rfl).trans ?_
  exact rfl
theorem e_X10_fillAll_153 (sc : SC) (p0 : Nat) (x1 : Int32) (x2 : Int32) (x3 : Int32) (x4 : Int32) (x5 : Int32) (x6 : Int32) (v7 : AV) (v8 : AV) (h : AH) : Run sc n_X10_fillAll 153 [aD p0, aI x1, aI x2, aI x3, aI x4, aI x5, aI x6, v7, v8] none [] h = Run sc n_X10_fillAll 159 [aD p0, aI x1, aI x2, aI x3, aI (x5 + (nI 1)), aI x5, aI x6, v7, v8] none [] h := by
  refine (s_go mt_X10_fillAll dX10_fillAll_153 rfl).trans ?_
  refine (s_go mt_X10_fillAll dX10_fillAll_155 rfl).trans ?_
  refine (s_go mt_X10_fillAll dX10_fillAll_156 rfl).trans ?_
  refine (s_go mt_X10_fillAll dX10_fillAll_157 rfl).trans ?_
  exact rfl
theorem e_X10_fillAll_159 (sc : SC) (p0 : Nat) (x1 : Int32) (x2 : Int32) (x3 : Int32) (x4 : Int32) (v5 : AV) (v6 : AV) (v7 : AV) (v8 : AV) (h : AH) : Run sc n_X10_fillAll 159 [aD p0, aI x1, aI x2, aI x3, aI x4, v5, v6, v7, v8] none [] h = Run sc n_X10_fillAll 43 [aD p0, aI x1, aI x2, aI x3, aI (x4 + nI 1), v5, v6, v7, v8] none [] h := by
  refine (s_go mt_X10_fillAll dX10_fillAll_159 rfl).trans ?_
  refine (s_go mt_X10_fillAll dX10_fillAll_162 rfl).trans ?_
  exact rfl
theorem e_X10_fillAll_165 (sc : SC) (p0 : Nat) (x1 : Int32) (x2 : Int32) (x3 : Int32) (x4 : Int32) (v5 : AV) (v6 : AV) (v7 : AV) (v8 : AV) (h : AH) : Run sc n_X10_fillAll 165 [aD p0, aI x1, aI x2, aI x3, aI x4, v5, v6, v7, v8] none [] h = some (.inl (some (aI x3)), h) := by
  refine (s_go mt_X10_fillAll dX10_fillAll_165 rfl).trans ?_
  exact q_ret (c := (some (aI x3), h)) mt_X10_fillAll dX10_fillAll_166 rfl
theorem e_X10_fillAll_5 (sc : SC) (p0 : Nat) (x1 : Int32) (x2 : Int32) (v3 : AV) (v4 : AV) (v5 : AV) (v6 : AV) (v7 : AV) (v8 : AV) (h : AH) : Run sc n_X10_fillAll 5 [aD p0, aI x1, aI x2, v3, v4, v5, v6, v7, v8] none [] h = bC (Call sc n_X10_isIn [aI x1, aI (nI 0), aI (nI 2)] h) (fun v z => Run sc n_X10_fillAll 11 [aD p0, aI x1, aI x2, v3, v4, v5, v6, v7, v8] none (v.toList ++ []) z) (fun E z => some (.inr E, z)) := by
  refine (s_go mt_X10_fillAll dX10_fillAll_5 rfl).trans ?_
  refine (s_go mt_X10_fillAll dX10_fillAll_6 rfl).trans ?_
  refine (s_go mt_X10_fillAll dX10_fillAll_7 rfl).trans ?_
  exact q_cS mt_X10_fillAll dX10_fillAll_8 rfl mt_X10_isIn rfl rfl
theorem e_X10_fillAll_20 (sc : SC) (p0 : Nat) (x1 : Int32) (x2 : Int32) (v3 : AV) (v4 : AV) (v5 : AV) (v6 : AV) (v7 : AV) (v8 : AV) (y0 : Int32) (h : AH) : Run sc n_X10_fillAll 20 [aD p0, aI x1, aI x2, v3, v4, v5, v6, v7, v8] none [aI y0] h = Run sc n_X10_fillAll (if y0 = 0 then 28 else 23) [aD p0, aI x1, aI x2, v3, v4, v5, v6, v7, v8] none [] h := by
  exact q_if mt_X10_fillAll dX10_fillAll_20 (fun _ _ _ _ => rfl) rfl
theorem e_X10_fillAll_33 (sc : SC) (p0 : Nat) (x1 : Int32) (x2 : Int32) (v3 : AV) (v4 : AV) (v5 : AV) (v6 : AV) (v7 : AV) (v8 : AV) (y0 : Int32) (h : AH) : Run sc n_X10_fillAll 33 [aD p0, aI x1, aI x2, v3, v4, v5, v6, v7, v8] none [aI y0] h = some (.inl (some (aI y0)), h) := by
  exact q_ret (c := (some (aI y0), h)) mt_X10_fillAll dX10_fillAll_33 rfl
theorem e_X10_fillAll_38 (sc : SC) (p0 : Nat) (x1 : Int32) (x2 : Int32) (v3 : AV) (v4 : AV) (v5 : AV) (v6 : AV) (v7 : AV) (v8 : AV) (h : AH) : Run sc n_X10_fillAll 38 [aD p0, aI x1, aI x2, v3, v4, v5, v6, v7, v8] none [] h = Run sc n_X10_fillAll 43 [aD p0, aI x1, aI x2, aI (nI 0), aI (nI 0), v5, v6, v7, v8] none [] h := by
  refine (s_go mt_X10_fillAll dX10_fillAll_38 rfl).trans ?_
  refine (s_go mt_X10_fillAll dX10_fillAll_39 rfl).trans ?_
  refine (s_go mt_X10_fillAll dX10_fillAll_40 rfl).trans ?_
  refine (s_go mt_X10_fillAll dX10_fillAll_41 rfl).trans ?_
  exact rfl
theorem e_X10_fillAll_49 (sc : SC) (p0 : Nat) (x1 : Int32) (x2 : Int32) (x3 : Int32) (x4 : Int32) (v5 : AV) (v6 : AV) (v7 : AV) (v8 : AV) (y0 : Int32) (y1 : Int32) (h : AH) : Run sc n_X10_fillAll 49 [aD p0, aI x1, aI x2, aI x3, aI x4, v5, v6, v7, v8] none [aI y1, aI y0] h = Run sc n_X10_fillAll (if y1 ≤ y0 then 165 else 52) [aD p0, aI x1, aI x2, aI x3, aI x4, v5, v6, v7, v8] none [] h := by
  exact q_icmp mt_X10_fillAll dX10_fillAll_49 (fun _ _ _ _ => rfl) rfl
theorem e_X10_fillAll_59 (sc : SC) (p0 : Nat) (x1 : Int32) (x2 : Int32) (x3 : Int32) (x4 : Int32) (v5 : AV) (v6 : AV) (v7 : AV) (v8 : AV) (y0 : Int32) (h : AH) : Run sc n_X10_fillAll 59 [aD p0, aI x1, aI x2, aI x3, aI x4, v5, v6, v7, v8] none [aI y0] h = bC (Call sc n_X10_isBranch [aI y0] h) (fun v z => Run sc n_X10_fillAll 62 [aD p0, aI x1, aI x2, aI x3, aI x4, v5, v6, v7, v8] none (v.toList ++ []) z) (fun E z => some (.inr E, z)) := by
  exact q_cS mt_X10_fillAll dX10_fillAll_59 rfl mt_X10_isBranch rfl rfl
theorem e_X10_fillAll_87 (sc : SC) (p0 : Nat) (x1 : Int32) (x2 : Int32) (x3 : Int32) (x4 : Int32) (x5 : Int32) (x6 : Int32) (v7 : AV) (v8 : AV) (y0 : Int32) (h : AH) : Run sc n_X10_fillAll 87 [aD p0, aI x1, aI x2, aI x3, aI x4, aI x5, aI x6, v7, v8] none [aI y0] h = Run sc n_X10_fillAll (if ¬ y0 = 0 then 153 else 90) [aD p0, aI x1, aI x2, aI x3, aI x4, aI x5, aI x6, v7, v8] none [] h := by
  exact q_if mt_X10_fillAll dX10_fillAll_87 (fun _ _ _ _ => rfl) rfl
theorem e_X10_fillAll_124 (sc : SC) (p0 : Nat) (x1 : Int32) (x2 : Int32) (x3 : Int32) (x4 : Int32) (x5 : Int32) (x6 : Int32) (x7 : Int32) (v8 : AV) (y0 : Int32) (h : AH) : Run sc n_X10_fillAll 124 [aD p0, aI x1, aI x2, aI x3, aI x4, aI x5, aI x6, aI x7, v8] none [aI y0] h = Run sc n_X10_fillAll (if y0 = (-1) then 147 else 132) [aD p0, aI x1, aI x2, aI x3, aI x4, aI x5, aI x6, aI x7, aI y0] none [] h := by
  refine (s_go mt_X10_fillAll dX10_fillAll_124 rfl).trans ?_
  refine (s_go mt_X10_fillAll dX10_fillAll_126 rfl).trans ?_
  refine (s_go mt_X10_fillAll dX10_fillAll_128 rfl).trans ?_
  exact q_icmp mt_X10_fillAll dX10_fillAll_129 (fun _ _ _ _ => rfl) rfl
theorem e_X10_fillAll_142 (sc : SC) (p0 : Nat) (x1 : Int32) (x2 : Int32) (x3 : Int32) (x4 : Int32) (x5 : Int32) (x6 : Int32) (x7 : Int32) (x8 : Int32) (y0 : Int32) (h : AH) : Run sc n_X10_fillAll 142 [aD p0, aI x1, aI x2, aI x3, aI x4, aI x5, aI x6, aI x7, aI x8] none [aI y0] h = Run sc n_X10_fillAll 147 [aD p0, aI x1, aI x2, aI (x3 + nI 1), aI x4, aI y0, aI x6, aI x7, aI x8] none [] h := by
  refine (s_go mt_X10_fillAll dX10_fillAll_142 rfl).trans ?_
  refine (s_go mt_X10_fillAll dX10_fillAll_144 rfl).trans ?_
  exact rfl
theorem e_X10_fillAll_11 (sc : SC) (p0 : Nat) (x1 : Int32) (x2 : Int32) (v3 : AV) (v4 : AV) (v5 : AV) (v6 : AV) (v7 : AV) (v8 : AV) (y0 : Int32) (h : AH) : Run sc n_X10_fillAll 11 [aD p0, aI x1, aI x2, v3, v4, v5, v6, v7, v8] none [aI y0] h = Run sc n_X10_fillAll (if y0 = 0 then 28 else 14) [aD p0, aI x1, aI x2, v3, v4, v5, v6, v7, v8] none [] h := by
  exact q_if mt_X10_fillAll dX10_fillAll_11 (fun _ _ _ _ => rfl) rfl
theorem e_X10_fillAll_62 (sc : SC) (p0 : Nat) (x1 : Int32) (x2 : Int32) (x3 : Int32) (x4 : Int32) (v5 : AV) (v6 : AV) (v7 : AV) (v8 : AV) (y0 : Int32) (h : AH) : Run sc n_X10_fillAll 62 [aD p0, aI x1, aI x2, aI x3, aI x4, v5, v6, v7, v8] none [aI y0] h = Run sc n_X10_fillAll (if y0 = 0 then 159 else 65) [aD p0, aI x1, aI x2, aI x3, aI x4, v5, v6, v7, v8] none [] h := by
  exact q_if mt_X10_fillAll dX10_fillAll_62 (fun _ _ _ _ => rfl) rfl
/-! BranchSlotFillerModel.undo()I -/
theorem e_X10_undo_0 (sc : SC) (p0 : Nat) (v1 : AV) (h : AH) : Run sc n_X10_undo 0 [aD p0, v1] none [] h = bO (putF h p0 12 0 0 (aI (nI 0))) (fun z => Run sc n_X10_undo 5 [aD p0, v1] none [] z) := by
  refine (s_go mt_X10_undo dX10_undo_0 rfl).trans ?_
  refine (s_go mt_X10_undo dX10_undo_1 rfl).trans ?_
  exact q_putfield mt_X10_undo dX10_undo_2 rfl rfl rfl rfl
theorem e_X10_undo_12 (sc : SC) (p0 : Nat) (v1 : AV) (h : AH) : Run sc n_X10_undo 12 [aD p0, v1] none [] h = bI (rOK sc h (aD p0) 12 = true) (bC (Call sc n_X10_fail [aD p0, aI (nI 1)] h) (fun v z => Run sc n_X10_undo 17 [aD p0, v1] none (v.toList ++ []) z) (fun E z => some (.inr E, z))) := by
  refine (s_go mt_X10_undo dX10_undo_12 rfl).trans ?_
  refine (s_go mt_X10_undo dX10_undo_13 rfl).trans ?_
  exact q_cV mt_X10_undo dX10_undo_14 rfl mt_X10_fail rfl rfl rfl
theorem e_X10_undo_18 (sc : SC) (p0 : Nat) (v1 : AV) (h : AH) : Run sc n_X10_undo 18 [aD p0, v1] none [] h = bF (getF sc h (aD p0) 12 5) (fun z => Run sc n_X10_undo 23 [aD p0, v1] none [z, aD p0] h) := by
  refine (s_go mt_X10_undo dX10_undo_18 rfl).trans ?_
  refine (s_go mt_X10_undo dX10_undo_19 rfl).trans ?_
  exact q_getfield mt_X10_undo dX10_undo_20 rfl
theorem e_X10_undo_30 (sc : SC) (p0 : Nat) (x1 : Int32) (h : AH) : Run sc n_X10_undo 30 [aD p0, aI x1] none [] h = Run sc n_X10_undo (if (nI 301) ≤ x1 then 64 else 37) [aD p0, aI x1] none [] h := by
  refine (s_go mt_X10_undo dX10_undo_30 rfl).trans ?_
  refine (s_go mt_X10_undo dX10_undo_31 rfl).trans ?_
  exact q_icmp mt_X10_undo dX10_undo_34 (fun _ _ _ _ => rfl) rfl
theorem e_X10_undo_37 (sc : SC) (p0 : Nat) (x1 : Int32) (h : AH) : Run sc n_X10_undo 37 [aD p0, aI x1] none [] h = bF (getF sc h (aD p0) 12 3) (fun z => Run sc n_X10_undo 41 [aD p0, aI x1] none [z] h) := by
  refine (s_go mt_X10_undo dX10_undo_37 rfl).trans ?_
  exact q_getfield mt_X10_undo dX10_undo_38 rfl
theorem e_X10_undo_64 (sc : SC) (p0 : Nat) (x1 : Int32) (h : AH) : Run sc n_X10_undo 64 [aD p0, aI x1] none [] h = bF (getF sc h (aD p0) 12 5) (fun z => Run sc n_X10_undo 68 [aD p0, aI x1] none [z] h) := by
  refine (s_go mt_X10_undo dX10_undo_64 rfl).trans ?_
  exact q_getfield mt_X10_undo dX10_undo_65 rfl
theorem e_X10_undo_5 (sc : SC) (p0 : Nat) (v1 : AV) (h : AH) : Run sc n_X10_undo 5 [aD p0, v1] none [] h = bF (getF sc h (aD p0) 12 5) (fun z => Run sc n_X10_undo 9 [aD p0, v1] none [z] h) := by
  refine (s_go mt_X10_undo dX10_undo_5 rfl).trans ?_
  exact q_getfield mt_X10_undo dX10_undo_6 rfl
theorem e_X10_undo_17 (sc : SC) (p0 : Nat) (v1 : AV) (y0 : Int32) (h : AH) : Run sc n_X10_undo 17 [aD p0, v1] none [aI y0] h = some (.inl (some (aI y0)), h) := by
  exact q_ret (c := (some (aI y0), h)) mt_X10_undo dX10_undo_17 rfl
theorem e_X10_undo_23 (sc : SC) (p0 : Nat) (v1 : AV) (q0 : Nat) (y1 : Int32) (h : AH) : Run sc n_X10_undo 23 [aD p0, v1] none [aI y1, aD q0] h = bO (putF h q0 12 5 0 (aI (y1 - (nI 1)))) (fun z => Run sc n_X10_undo 28 [aD p0, v1] none [] z) := by
  refine (s_go mt_X10_undo dX10_undo_23 rfl).trans ?_
  refine (s_go mt_X10_undo dX10_undo_24 rfl).trans ?_
  exact q_putfield mt_X10_undo dX10_undo_25 rfl rfl rfl rfl
theorem e_X10_undo_41 (sc : SC) (p0 : Nat) (x1 : Int32) (q0 : Nat) (h : AH) : Run sc n_X10_undo 41 [aD p0, aI x1] none [aD q0] h = bF (getF sc h (aD p0) 12 4) (fun z => Run sc n_X10_undo 46 [aD p0, aI x1] none [z, aI x1, aD q0] h) := by
  refine (s_go mt_X10_undo dX10_undo_41 rfl).trans ?_
  refine (s_go mt_X10_undo dX10_undo_42 rfl).trans ?_
  exact q_getfield mt_X10_undo dX10_undo_43 rfl
theorem e_X10_undo_68 (sc : SC) (p0 : Nat) (x1 : Int32) (y0 : Int32) (h : AH) : Run sc n_X10_undo 68 [aD p0, aI x1] none [aI y0] h = some (.inl (some (aI y0)), h) := by
  exact q_ret (c := (some (aI y0), h)) mt_X10_undo dX10_undo_68 rfl
theorem e_X10_undo_9 (sc : SC) (p0 : Nat) (v1 : AV) (y0 : Int32) (h : AH) : Run sc n_X10_undo 9 [aD p0, v1] none [aI y0] h = Run sc n_X10_undo (if ¬ y0 = 0 then 18 else 12) [aD p0, v1] none [] h := by
  exact q_if mt_X10_undo dX10_undo_9 (fun _ _ _ _ => rfl) rfl
theorem e_X10_undo_28 (sc : SC) (p0 : Nat) (v1 : AV) (h : AH) : Run sc n_X10_undo 28 [aD p0, v1] none [] h = Run sc n_X10_undo 30 [aD p0, aI (nI 0)] none [] h := by
  refine (s_go mt_X10_undo dX10_undo_28 rfl).trans ?_
  refine (s_go mt_X10_undo dX10_undo_29 rfl).trans ?_
  exact rfl
theorem e_X10_undo_46 (sc : SC) (p0 : Nat) (x1 : Int32) (q0 : Nat) (y1 : Int32) (q2 : Nat) (h : AH) : Run sc n_X10_undo 46 [aD p0, aI x1] none [aD q2, aI y1, aD q0] h = bF (getF sc h (aD p0) 12 5) (fun z => Run sc n_X10_undo 53 [aD p0, aI x1] none [z, aI (nI 301), aD q2, aI y1, aD q0] h) := by
  refine (s_go mt_X10_undo dX10_undo_46 rfl).trans ?_
  refine (s_go mt_X10_undo dX10_undo_49 rfl).trans ?_
  exact q_getfield mt_X10_undo dX10_undo_50 rfl
theorem e_X10_undo_53 (sc : SC) (p0 : Nat) (x1 : Int32) (q0 : Nat) (y1 : Int32) (q2 : Nat) (y3 : Int32) (y4 : Int32) (h : AH) : Run sc n_X10_undo 53 [aD p0, aI x1] none [aI y4, aI y3, aD q2, aI y1, aD q0] h = bO (ldI sc h (fun t => t == 0) (aD q2) ((y3 * y4) + x1)) (fun z => Run sc n_X10_undo 57 [aD p0, aI x1] none [aI z, aI y1, aD q0] h) := by
  refine (s_go mt_X10_undo dX10_undo_53 rfl).trans ?_
  refine (s_go mt_X10_undo dX10_undo_54 rfl).trans ?_
  refine (s_go mt_X10_undo dX10_undo_55 rfl).trans ?_
  exact q_iaload mt_X10_undo dX10_undo_56
theorem e_X10_undo_57 (sc : SC) (p0 : Nat) (x1 : Int32) (q0 : Nat) (y1 : Int32) (y2 : Int32) (h : AH) : Run sc n_X10_undo 57 [aD p0, aI x1] none [aI y2, aI y1, aD q0] h = bO (stI h (fun t => t == 0) q0 y1 y2) (fun z => Run sc n_X10_undo 58 [aD p0, aI x1] none [] z) := by
  exact q_iastore mt_X10_undo dX10_undo_57
theorem e_X10_undo_58 (sc : SC) (p0 : Nat) (x1 : Int32) (h : AH) : Run sc n_X10_undo 58 [aD p0, aI x1] none [] h = Run sc n_X10_undo 30 [aD p0, aI (x1 + nI 1)] none [] h := by
  refine (s_go mt_X10_undo dX10_undo_58 rfl).trans ?_
  refine (s_go mt_X10_undo dX10_undo_61 rfl).trans ?_
  exact rfl
/-! BranchSlotFillerModel.add(C)V -/
theorem e_X10_add_0 (sc : SC) (p0 : Nat) (x1 : Int32) (h : AH) : Run sc n_X10_add 0 [aD p0, aI x1] none [] h = Run sc n_X10_add (if x1 = 0 then 24 else 4) [aD p0, aI x1] none [] h := by
  refine (s_go mt_X10_add dX10_add_0 rfl).trans ?_
  exact q_if mt_X10_add dX10_add_1 (fun _ _ _ _ => rfl) rfl
theorem e_X10_add_4 (sc : SC) (p0 : Nat) (x1 : Int32) (h : AH) : Run sc n_X10_add 4 [aD p0, aI x1] none [] h = bF (getF sc h (aD p0) 12 15) (fun z => Run sc n_X10_add 8 [aD p0, aI x1] none [z] h) := by
  refine (s_go mt_X10_add dX10_add_4 rfl).trans ?_
  exact q_getfield mt_X10_add dX10_add_5 rfl
theorem e_X10_add_24 (sc : SC) (p0 : Nat) (x1 : Int32) (h : AH) : Run sc n_X10_add 24 [aD p0, aI x1] none [] h = some (.inl none, h) := by
  exact q_ret (c := (none, h)) mt_X10_add dX10_add_24 rfl
theorem e_X10_add_8 (sc : SC) (p0 : Nat) (x1 : Int32) (q0 : Nat) (h : AH) : Run sc n_X10_add 8 [aD p0, aI x1] none [aD q0] h = bF (getF sc h (aD p0) 12 16) (fun z => Run sc n_X10_add 12 [aD p0, aI x1] none [z, aD q0] h) := by
  refine (s_go mt_X10_add dX10_add_8 rfl).trans ?_
  exact q_getfield mt_X10_add dX10_add_9 rfl
theorem e_X10_add_12 (sc : SC) (p0 : Nat) (x1 : Int32) (q0 : Nat) (y1 : Int32) (h : AH) : Run sc n_X10_add 12 [aD p0, aI x1] none [aI y1, aD q0] h = bO (stI h (fun t => t == 1) q0 y1 x1) (fun z => Run sc n_X10_add 14 [aD p0, aI x1] none [] z) := by
  refine (s_go mt_X10_add dX10_add_12 rfl).trans ?_
  exact q_castore mt_X10_add dX10_add_13
theorem e_X10_add_14 (sc : SC) (p0 : Nat) (x1 : Int32) (h : AH) : Run sc n_X10_add 14 [aD p0, aI x1] none [] h = bF (getF sc h (aD p0) 12 16) (fun z => Run sc n_X10_add 19 [aD p0, aI x1] none [z, aD p0] h) := by
  refine (s_go mt_X10_add dX10_add_14 rfl).trans ?_
  refine (s_go mt_X10_add dX10_add_15 rfl).trans ?_
  exact q_getfield mt_X10_add dX10_add_16 rfl
theorem e_X10_add_19 (sc : SC) (p0 : Nat) (x1 : Int32) (q0 : Nat) (y1 : Int32) (h : AH) : Run sc n_X10_add 19 [aD p0, aI x1] none [aI y1, aD q0] h = bO (putF h q0 12 16 0 (aI (y1 + (nI 1)))) (fun z => Run sc n_X10_add 24 [aD p0, aI x1] none [] z) := by
  refine (s_go mt_X10_add dX10_add_19 rfl).trans ?_
  refine (s_go mt_X10_add dX10_add_20 rfl).trans ?_
  exact q_putfield mt_X10_add dX10_add_21 rfl rfl rfl rfl
/-! BranchSlotFillerModel.addName(CCCCC)V -/
theorem e_X10_addName_0 (sc : SC) (p0 : Nat) (x1 : Int32) (x2 : Int32) (x3 : Int32) (x4 : Int32) (x5 : Int32) (h : AH) : Run sc n_X10_addName 0 [aD p0, aI x1, aI x2, aI x3, aI x4, aI x5] none [] h = bI (rOK sc h (aD p0) 12 = true) (bC (Call sc n_X10_add [aD p0, aI x1] h) (fun v z => Run sc n_X10_addName 5 [aD p0, aI x1, aI x2, aI x3, aI x4, aI x5] none (v.toList ++ []) z) (fun E z => some (.inr E, z))) := by
  refine (s_go mt_X10_addName dX10_addName_0 rfl).trans ?_
  refine (s_go mt_X10_addName dX10_addName_1 rfl).trans ?_
  exact q_cV mt_X10_addName dX10_addName_2 rfl mt_X10_add rfl rfl rfl
theorem e_X10_addName_5 (sc : SC) (p0 : Nat) (x1 : Int32) (x2 : Int32) (x3 : Int32) (x4 : Int32) (x5 : Int32) (h : AH) : Run sc n_X10_addName 5 [aD p0, aI x1, aI x2, aI x3, aI x4, aI x5] none [] h = bI (rOK sc h (aD p0) 12 = true) (bC (Call sc n_X10_add [aD p0, aI x2] h) (fun v z => Run sc n_X10_addName 10 [aD p0, aI x1, aI x2, aI x3, aI x4, aI x5] none (v.toList ++ []) z) (fun E z => some (.inr E, z))) := by
  refine (s_go mt_X10_addName dX10_addName_5 rfl).trans ?_
  refine (s_go mt_X10_addName dX10_addName_6 rfl).trans ?_
  exact q_cV mt_X10_addName dX10_addName_7 rfl mt_X10_add rfl rfl rfl
theorem e_X10_addName_10 (sc : SC) (p0 : Nat) (x1 : Int32) (x2 : Int32) (x3 : Int32) (x4 : Int32) (x5 : Int32) (h : AH) : Run sc n_X10_addName 10 [aD p0, aI x1, aI x2, aI x3, aI x4, aI x5] none [] h = bI (rOK sc h (aD p0) 12 = true) (bC (Call sc n_X10_add [aD p0, aI x3] h) (fun v z => Run sc n_X10_addName 15 [aD p0, aI x1, aI x2, aI x3, aI x4, aI x5] none (v.toList ++ []) z) (fun E z => some (.inr E, z))) := by
  refine (s_go mt_X10_addName dX10_addName_10 rfl).trans ?_
  refine (s_go mt_X10_addName dX10_addName_11 rfl).trans ?_
  exact q_cV mt_X10_addName dX10_addName_12 rfl mt_X10_add rfl rfl rfl
theorem e_X10_addName_15 (sc : SC) (p0 : Nat) (x1 : Int32) (x2 : Int32) (x3 : Int32) (x4 : Int32) (x5 : Int32) (h : AH) : Run sc n_X10_addName 15 [aD p0, aI x1, aI x2, aI x3, aI x4, aI x5] none [] h = bI (rOK sc h (aD p0) 12 = true) (bC (Call sc n_X10_add [aD p0, aI x4] h) (fun v z => Run sc n_X10_addName 21 [aD p0, aI x1, aI x2, aI x3, aI x4, aI x5] none (v.toList ++ []) z) (fun E z => some (.inr E, z))) := by
  refine (s_go mt_X10_addName dX10_addName_15 rfl).trans ?_
  refine (s_go mt_X10_addName dX10_addName_16 rfl).trans ?_
  exact q_cV mt_X10_addName dX10_addName_18 rfl mt_X10_add rfl rfl rfl
theorem e_X10_addName_21 (sc : SC) (p0 : Nat) (x1 : Int32) (x2 : Int32) (x3 : Int32) (x4 : Int32) (x5 : Int32) (h : AH) : Run sc n_X10_addName 21 [aD p0, aI x1, aI x2, aI x3, aI x4, aI x5] none [] h = bI (rOK sc h (aD p0) 12 = true) (bC (Call sc n_X10_add [aD p0, aI x5] h) (fun v z => Run sc n_X10_addName 27 [aD p0, aI x1, aI x2, aI x3, aI x4, aI x5] none (v.toList ++ []) z) (fun E z => some (.inr E, z))) := by
  refine (s_go mt_X10_addName dX10_addName_21 rfl).trans ?_
  refine (s_go mt_X10_addName dX10_addName_22 rfl).trans ?_
  exact q_cV mt_X10_addName dX10_addName_24 rfl mt_X10_add rfl rfl rfl
theorem e_X10_addName_27 (sc : SC) (p0 : Nat) (x1 : Int32) (x2 : Int32) (x3 : Int32) (x4 : Int32) (x5 : Int32) (h : AH) : Run sc n_X10_addName 27 [aD p0, aI x1, aI x2, aI x3, aI x4, aI x5] none [] h = some (.inl none, h) := by
  exact q_ret (c := (none, h)) mt_X10_addName dX10_addName_27 rfl
/-! BranchSlotFillerModel.addKind(I)V -/
theorem e_X10_addKind_0 (sc : SC) (p0 : Nat) (x1 : Int32) (h : AH) : Run sc n_X10_addKind 0 [aD p0, aI x1] none [] h = Run sc n_X10_addKind (if (x1).toInt < 0 ∨ 10 < (x1).toInt then 233 else ([60, 75, 90, 106, 121, 136, 152, 169, 184, 201, 217] : List Nat).getD ((x1).toInt - 0).toNat 0) [aD p0, aI x1] none [] h := by
  refine (s_go mt_X10_addKind dX10_addKind_0 rfl).trans ?_
  exact q_table (pc := 1) (T := [60, 75, 90, 106, 121, 136, 152, 169, 184, 201, 217]) mt_X10_addKind dX10_addKind_1 rfl (by decide +kernel)
theorem e_X10_addKind_60 (sc : SC) (p0 : Nat) (x1 : Int32) (h : AH) : Run sc n_X10_addKind 60 [aD p0, aI x1] none [] h = bI (rOK sc h (aD p0) 12 = true) (bC (Call sc n_X10_addName [aD p0, aI (nI 110), aI (nI 111), aI (nI 112), aI (nI 0), aI (nI 0)] h) (fun v z => Run sc n_X10_addKind 72 [aD p0, aI x1] none (v.toList ++ []) z) (fun E z => some (.inr E, z))) := by
  refine (s_go mt_X10_addKind dX10_addKind_60 rfl).trans ?_
  refine (s_go mt_X10_addKind dX10_addKind_61 rfl).trans ?_
  refine (s_go mt_X10_addKind dX10_addKind_63 rfl).trans ?_
  refine (s_go mt_X10_addKind dX10_addKind_65 rfl).trans ?_
  refine (s_go mt_X10_addKind dX10_addKind_67 rfl).trans ?_
  refine (s_go mt_X10_addKind dX10_addKind_68 rfl).trans ?_
  exact q_cV mt_X10_addKind dX10_addKind_69 rfl mt_X10_addName rfl rfl rfl
theorem e_X10_addKind_75 (sc : SC) (p0 : Nat) (x1 : Int32) (h : AH) : Run sc n_X10_addKind 75 [aD p0, aI x1] none [] h = bI (rOK sc h (aD p0) 12 = true) (bC (Call sc n_X10_addName [aD p0, aI (nI 115), aI (nI 101), aI (nI 116), aI (nI 0), aI (nI 0)] h) (fun v z => Run sc n_X10_addKind 87 [aD p0, aI x1] none (v.toList ++ []) z) (fun E z => some (.inr E, z))) := by
  refine (s_go mt_X10_addKind dX10_addKind_75 rfl).trans ?_
  refine (s_go mt_X10_addKind dX10_addKind_76 rfl).trans ?_
  refine (s_go mt_X10_addKind dX10_addKind_78 rfl).trans ?_
  refine (s_go mt_X10_addKind dX10_addKind_80 rfl).trans ?_
  refine (s_go mt_X10_addKind dX10_addKind_82 rfl).trans ?_
  refine (s_go mt_X10_addKind dX10_addKind_83 rfl).trans ?_
  exact q_cV mt_X10_addKind dX10_addKind_84 rfl mt_X10_addName rfl rfl rfl
theorem e_X10_addKind_90 (sc : SC) (p0 : Nat) (x1 : Int32) (h : AH) : Run sc n_X10_addKind 90 [aD p0, aI x1] none [] h = bI (rOK sc h (aD p0) 12 = true) (bC (Call sc n_X10_addName [aD p0, aI (nI 99), aI (nI 111), aI (nI 112), aI (nI 121), aI (nI 0)] h) (fun v z => Run sc n_X10_addKind 103 [aD p0, aI x1] none (v.toList ++ []) z) (fun E z => some (.inr E, z))) := by
  refine (s_go mt_X10_addKind dX10_addKind_90 rfl).trans ?_
  refine (s_go mt_X10_addKind dX10_addKind_91 rfl).trans ?_
  refine (s_go mt_X10_addKind dX10_addKind_93 rfl).trans ?_
  refine (s_go mt_X10_addKind dX10_addKind_95 rfl).trans ?_
  refine (s_go mt_X10_addKind dX10_addKind_97 rfl).trans ?_
  refine (s_go mt_X10_addKind dX10_addKind_99 rfl).trans ?_
  exact q_cV mt_X10_addKind dX10_addKind_100 rfl mt_X10_addName rfl rfl rfl
theorem e_X10_addKind_106 (sc : SC) (p0 : Nat) (x1 : Int32) (h : AH) : Run sc n_X10_addKind 106 [aD p0, aI x1] none [] h = bI (rOK sc h (aD p0) 12 = true) (bC (Call sc n_X10_addName [aD p0, aI (nI 97), aI (nI 100), aI (nI 100), aI (nI 0), aI (nI 0)] h) (fun v z => Run sc n_X10_addKind 118 [aD p0, aI x1] none (v.toList ++ []) z) (fun E z => some (.inr E, z))) := by
  refine (s_go mt_X10_addKind dX10_addKind_106 rfl).trans ?_
  refine (s_go mt_X10_addKind dX10_addKind_107 rfl).trans ?_
  refine (s_go mt_X10_addKind dX10_addKind_109 rfl).trans ?_
  refine (s_go mt_X10_addKind dX10_addKind_111 rfl).trans ?_
  refine (s_go mt_X10_addKind dX10_addKind_113 rfl).trans ?_
  refine (s_go mt_X10_addKind dX10_addKind_114 rfl).trans ?_
  exact q_cV mt_X10_addKind dX10_addKind_115 rfl mt_X10_addName rfl rfl rfl
theorem e_X10_addKind_121 (sc : SC) (p0 : Nat) (x1 : Int32) (h : AH) : Run sc n_X10_addKind 121 [aD p0, aI x1] none [] h = bI (rOK sc h (aD p0) 12 = true) (bC (Call sc n_X10_addName [aD p0, aI (nI 115), aI (nI 117), aI (nI 98), aI (nI 0), aI (nI 0)] h) (fun v z => Run sc n_X10_addKind 133 [aD p0, aI x1] none (v.toList ++ []) z) (fun E z => some (.inr E, z))) := by
  refine (s_go mt_X10_addKind dX10_addKind_121 rfl).trans ?_
  refine (s_go mt_X10_addKind dX10_addKind_122 rfl).trans ?_
  refine (s_go mt_X10_addKind dX10_addKind_124 rfl).trans ?_
  refine (s_go mt_X10_addKind dX10_addKind_126 rfl).trans ?_
  refine (s_go mt_X10_addKind dX10_addKind_128 rfl).trans ?_
  refine (s_go mt_X10_addKind dX10_addKind_129 rfl).trans ?_
  exact q_cV mt_X10_addKind dX10_addKind_130 rfl mt_X10_addName rfl rfl rfl
theorem e_X10_addKind_136 (sc : SC) (p0 : Nat) (x1 : Int32) (h : AH) : Run sc n_X10_addKind 136 [aD p0, aI x1] none [] h = bI (rOK sc h (aD p0) 12 = true) (bC (Call sc n_X10_addName [aD p0, aI (nI 108), aI (nI 111), aI (nI 97), aI (nI 100), aI (nI 0)] h) (fun v z => Run sc n_X10_addKind 149 [aD p0, aI x1] none (v.toList ++ []) z) (fun E z => some (.inr E, z))) := by
  refine (s_go mt_X10_addKind dX10_addKind_136 rfl).trans ?_
  refine (s_go mt_X10_addKind dX10_addKind_137 rfl).trans ?_
  refine (s_go mt_X10_addKind dX10_addKind_139 rfl).trans ?_
  refine (s_go mt_X10_addKind dX10_addKind_141 rfl).trans ?_
  refine (s_go mt_X10_addKind dX10_addKind_143 rfl).trans ?_
  refine (s_go mt_X10_addKind dX10_addKind_145 rfl).trans ?_
  exact q_cV mt_X10_addKind dX10_addKind_146 rfl mt_X10_addName rfl rfl rfl
theorem e_X10_addKind_152 (sc : SC) (p0 : Nat) (x1 : Int32) (h : AH) : Run sc n_X10_addKind 152 [aD p0, aI x1] none [] h = bI (rOK sc h (aD p0) 12 = true) (bC (Call sc n_X10_addName [aD p0, aI (nI 115), aI (nI 116), aI (nI 111), aI (nI 114), aI (nI 101)] h) (fun v z => Run sc n_X10_addKind 166 [aD p0, aI x1] none (v.toList ++ []) z) (fun E z => some (.inr E, z))) := by
  refine (s_go mt_X10_addKind dX10_addKind_152 rfl).trans ?_
  refine (s_go mt_X10_addKind dX10_addKind_153 rfl).trans ?_
  refine (s_go mt_X10_addKind dX10_addKind_155 rfl).trans ?_
  refine (s_go mt_X10_addKind dX10_addKind_157 rfl).trans ?_
  refine (s_go mt_X10_addKind dX10_addKind_159 rfl).trans ?_
  refine (s_go mt_X10_addKind dX10_addKind_161 rfl).trans ?_
  exact q_cV mt_X10_addKind dX10_addKind_163 rfl mt_X10_addName rfl rfl rfl
theorem e_X10_addKind_169 (sc : SC) (p0 : Nat) (x1 : Int32) (h : AH) : Run sc n_X10_addKind 169 [aD p0, aI x1] none [] h = bI (rOK sc h (aD p0) 12 = true) (bC (Call sc n_X10_addName [aD p0, aI (nI 111), aI (nI 117), aI (nI 116), aI (nI 0), aI (nI 0)] h) (fun v z => Run sc n_X10_addKind 181 [aD p0, aI x1] none (v.toList ++ []) z) (fun E z => some (.inr E, z))) := by
  refine (s_go mt_X10_addKind dX10_addKind_169 rfl).trans ?_
  refine (s_go mt_X10_addKind dX10_addKind_170 rfl).trans ?_
  refine (s_go mt_X10_addKind dX10_addKind_172 rfl).trans ?_
  refine (s_go mt_X10_addKind dX10_addKind_174 rfl).trans ?_
  refine (s_go mt_X10_addKind dX10_addKind_176 rfl).trans ?_
  refine (s_go mt_X10_addKind dX10_addKind_177 rfl).trans ?_
  exact q_cV mt_X10_addKind dX10_addKind_178 rfl mt_X10_addName rfl rfl rfl
theorem e_X10_addKind_184 (sc : SC) (p0 : Nat) (x1 : Int32) (h : AH) : Run sc n_X10_addKind 184 [aD p0, aI x1] none [] h = bI (rOK sc h (aD p0) 12 = true) (bC (Call sc n_X10_addName [aD p0, aI (nI 101), aI (nI 113), aI (nI 117), aI (nI 97), aI (nI 108)] h) (fun v z => Run sc n_X10_addKind 198 [aD p0, aI x1] none (v.toList ++ []) z) (fun E z => some (.inr E, z))) := by
  refine (s_go mt_X10_addKind dX10_addKind_184 rfl).trans ?_
  refine (s_go mt_X10_addKind dX10_addKind_185 rfl).trans ?_
  refine (s_go mt_X10_addKind dX10_addKind_187 rfl).trans ?_
  refine (s_go mt_X10_addKind dX10_addKind_189 rfl).trans ?_
  refine (s_go mt_X10_addKind dX10_addKind_191 rfl).trans ?_
  refine (s_go mt_X10_addKind dX10_addKind_193 rfl).trans ?_
  exact q_cV mt_X10_addKind dX10_addKind_195 rfl mt_X10_addName rfl rfl rfl
theorem e_X10_addKind_201 (sc : SC) (p0 : Nat) (x1 : Int32) (h : AH) : Run sc n_X10_addKind 201 [aD p0, aI x1] none [] h = bI (rOK sc h (aD p0) 12 = true) (bC (Call sc n_X10_addName [aD p0, aI (nI 108), aI (nI 101), aI (nI 115), aI (nI 115), aI (nI 0)] h) (fun v z => Run sc n_X10_addKind 214 [aD p0, aI x1] none (v.toList ++ []) z) (fun E z => some (.inr E, z))) := by
  refine (s_go mt_X10_addKind dX10_addKind_201 rfl).trans ?_
  refine (s_go mt_X10_addKind dX10_addKind_202 rfl).trans ?_
  refine (s_go mt_X10_addKind dX10_addKind_204 rfl).trans ?_
  refine (s_go mt_X10_addKind dX10_addKind_206 rfl).trans ?_
  refine (s_go mt_X10_addKind dX10_addKind_208 rfl).trans ?_
  refine (s_go mt_X10_addKind dX10_addKind_210 rfl).trans ?_
  exact q_cV mt_X10_addKind dX10_addKind_211 rfl mt_X10_addName rfl rfl rfl
theorem e_X10_addKind_217 (sc : SC) (p0 : Nat) (x1 : Int32) (h : AH) : Run sc n_X10_addKind 217 [aD p0, aI x1] none [] h = bI (rOK sc h (aD p0) 12 = true) (bC (Call sc n_X10_addName [aD p0, aI (nI 106), aI (nI 117), aI (nI 109), aI (nI 112), aI (nI 0)] h) (fun v z => Run sc n_X10_addKind 230 [aD p0, aI x1] none (v.toList ++ []) z) (fun E z => some (.inr E, z))) := by
  refine (s_go mt_X10_addKind dX10_addKind_217 rfl).trans ?_
  refine (s_go mt_X10_addKind dX10_addKind_218 rfl).trans ?_
  refine (s_go mt_X10_addKind dX10_addKind_220 rfl).trans ?_
  refine (s_go mt_X10_addKind dX10_addKind_222 rfl).trans ?_
  refine (s_go mt_X10_addKind dX10_addKind_224 rfl).trans ?_
  refine (s_go mt_X10_addKind dX10_addKind_226 rfl).trans ?_
  exact q_cV mt_X10_addKind dX10_addKind_227 rfl mt_X10_addName rfl rfl rfl
theorem e_X10_addKind_233 (sc : SC) (p0 : Nat) (x1 : Int32) (h : AH) : Run sc n_X10_addKind 233 [aD p0, aI x1] none [] h = bI (rOK sc h (aD p0) 12 = true) (bC (Call sc n_X10_addName [aD p0, aI (nI 104), aI (nI 97), aI (nI 108), aI (nI 116), aI (nI 0)] h) (fun v z => Run sc n_X10_addKind 246 [aD p0, aI x1] none (v.toList ++ []) z) (fun E z => some (.inr E, z))) := by
  refine (s_go mt_X10_addKind dX10_addKind_233 rfl).trans ?_
  refine (s_go mt_X10_addKind dX10_addKind_234 rfl).trans ?_
  refine (s_go mt_X10_addKind dX10_addKind_236 rfl).trans ?_
  refine (s_go mt_X10_addKind dX10_addKind_238 rfl).trans ?_
  refine (s_go mt_X10_addKind dX10_addKind_240 rfl).trans ?_
  refine (s_go mt_X10_addKind dX10_addKind_242 rfl).trans ?_
  exact q_cV mt_X10_addKind dX10_addKind_243 rfl mt_X10_addName rfl rfl rfl
theorem e_X10_addKind_246 (sc : SC) (p0 : Nat) (x1 : Int32) (h : AH) : Run sc n_X10_addKind 246 [aD p0, aI x1] none [] h = some (.inl none, h) := by
  exact q_ret (c := (none, h)) mt_X10_addKind dX10_addKind_246 rfl
theorem e_X10_addKind_72 (sc : SC) (p0 : Nat) (x1 : Int32) (h : AH) : Run sc n_X10_addKind 72 [aD p0, aI x1] none [] h = Run sc n_X10_addKind 246 [aD p0, aI x1] none [] h := by
  refine (s_go mt_X10_addKind dX10_addKind_72 rfl).trans ?_
  exact rfl
theorem e_X10_addKind_87 (sc : SC) (p0 : Nat) (x1 : Int32) (h : AH) : Run sc n_X10_addKind 87 [aD p0, aI x1] none [] h = Run sc n_X10_addKind 246 [aD p0, aI x1] none [] h := by
  refine (s_go mt_X10_addKind dX10_addKind_87 rfl).trans ?_
  exact rfl
theorem e_X10_addKind_103 (sc : SC) (p0 : Nat) (x1 : Int32) (h : AH) : Run sc n_X10_addKind 103 [aD p0, aI x1] none [] h = Run sc n_X10_addKind 246 [aD p0, aI x1] none [] h := by
  refine (s_go mt_X10_addKind dX10_addKind_103 rfl).trans ?_
  exact rfl
theorem e_X10_addKind_118 (sc : SC) (p0 : Nat) (x1 : Int32) (h : AH) : Run sc n_X10_addKind 118 [aD p0, aI x1] none [] h = Run sc n_X10_addKind 246 [aD p0, aI x1] none [] h := by
  refine (s_go mt_X10_addKind dX10_addKind_118 rfl).trans ?_
  exact rfl
theorem e_X10_addKind_133 (sc : SC) (p0 : Nat) (x1 : Int32) (h : AH) : Run sc n_X10_addKind 133 [aD p0, aI x1] none [] h = Run sc n_X10_addKind 246 [aD p0, aI x1] none [] h := by
  refine (s_go mt_X10_addKind dX10_addKind_133 rfl).trans ?_
  exact rfl
theorem e_X10_addKind_149 (sc : SC) (p0 : Nat) (x1 : Int32) (h : AH) : Run sc n_X10_addKind 149 [aD p0, aI x1] none [] h = Run sc n_X10_addKind 246 [aD p0, aI x1] none [] h := by
  refine (s_go mt_X10_addKind dX10_addKind_149 rfl).trans ?_
  exact rfl
theorem e_X10_addKind_166 (sc : SC) (p0 : Nat) (x1 : Int32) (h : AH) : Run sc n_X10_addKind 166 [aD p0, aI x1] none [] h = Run sc n_X10_addKind 246 [aD p0, aI x1] none [] h := by
  refine (s_go mt_X10_addKind dX10_addKind_166 rfl).trans ?_
  exact rfl
theorem e_X10_addKind_181 (sc : SC) (p0 : Nat) (x1 : Int32) (h : AH) : Run sc n_X10_addKind 181 [aD p0, aI x1] none [] h = Run sc n_X10_addKind 246 [aD p0, aI x1] none [] h := by
  refine (s_go mt_X10_addKind dX10_addKind_181 rfl).trans ?_
  exact rfl
theorem e_X10_addKind_198 (sc : SC) (p0 : Nat) (x1 : Int32) (h : AH) : Run sc n_X10_addKind 198 [aD p0, aI x1] none [] h = Run sc n_X10_addKind 246 [aD p0, aI x1] none [] h := by
  refine (s_go mt_X10_addKind dX10_addKind_198 rfl).trans ?_
  exact rfl
theorem e_X10_addKind_214 (sc : SC) (p0 : Nat) (x1 : Int32) (h : AH) : Run sc n_X10_addKind 214 [aD p0, aI x1] none [] h = Run sc n_X10_addKind 246 [aD p0, aI x1] none [] h := by
  refine (s_go mt_X10_addKind dX10_addKind_214 rfl).trans ?_
  exact rfl
theorem e_X10_addKind_230 (sc : SC) (p0 : Nat) (x1 : Int32) (h : AH) : Run sc n_X10_addKind 230 [aD p0, aI x1] none [] h = Run sc n_X10_addKind 246 [aD p0, aI x1] none [] h := by
  refine (s_go mt_X10_addKind dX10_addKind_230 rfl).trans ?_
  exact rfl
/-! BranchSlotFillerModel.addNumber(I)V -/
theorem e_X10_addNumber_0 (sc : SC) (p0 : Nat) (x1 : Int32) (v2 : AV) (h : AH) : Run sc n_X10_addNumber 0 [aD p0, aI x1, v2] none [] h = bI (rOK sc h (aD p0) 12 = true) (bC (Call sc n_X10_add [aD p0, aI (nI 32)] h) (fun v z => Run sc n_X10_addNumber 6 [aD p0, aI x1, v2] none (v.toList ++ []) z) (fun E z => some (.inr E, z))) := by
  refine (s_go mt_X10_addNumber dX10_addNumber_0 rfl).trans ?_
  refine (s_go mt_X10_addNumber dX10_addNumber_1 rfl).trans ?_
  exact q_cV mt_X10_addNumber dX10_addNumber_3 rfl mt_X10_add rfl rfl rfl
theorem e_X10_addNumber_12 (sc : SC) (p0 : Nat) (x1 : Int32) (x2 : Int32) (h : AH) : Run sc n_X10_addNumber 12 [aD p0, aI x1, aI x2] none [] h = bI (rOK sc h (aD p0) 12 = true) (bC (Call sc n_X10_add [aD p0, aI (nI 45)] h) (fun v z => Run sc n_X10_addNumber 18 [aD p0, aI x1, aI x2] none (v.toList ++ []) z) (fun E z => some (.inr E, z))) := by
  refine (s_go mt_X10_addNumber dX10_addNumber_12 rfl).trans ?_
  refine (s_go mt_X10_addNumber dX10_addNumber_13 rfl).trans ?_
  exact q_cV mt_X10_addNumber dX10_addNumber_15 rfl mt_X10_add rfl rfl rfl
theorem e_X10_addNumber_21 (sc : SC) (p0 : Nat) (x1 : Int32) (x2 : Int32) (h : AH) : Run sc n_X10_addNumber 21 [aD p0, aI x1, aI x2] none [] h = Run sc n_X10_addNumber (if x2 ≤ (nI 9) then 39 else 27) [aD p0, aI x1, aI x2] none [] h := by
  refine (s_go mt_X10_addNumber dX10_addNumber_21 rfl).trans ?_
  refine (s_go mt_X10_addNumber dX10_addNumber_22 rfl).trans ?_
  exact q_icmp mt_X10_addNumber dX10_addNumber_24 (fun _ _ _ _ => rfl) rfl
theorem e_X10_addNumber_27 (sc : SC) (p0 : Nat) (x1 : Int32) (x2 : Int32) (h : AH) : Run sc n_X10_addNumber 27 [aD p0, aI x1, aI x2] none [] h = bI (¬ (nI 10) = 0) (Run sc n_X10_addNumber 34 [aD p0, aI x1, aI x2] none [aI (x2 / (nI 10)), aI (nI 48), aD p0] h) := by
  refine (s_go mt_X10_addNumber dX10_addNumber_27 rfl).trans ?_
  refine (s_go mt_X10_addNumber dX10_addNumber_28 rfl).trans ?_
  refine (s_go mt_X10_addNumber dX10_addNumber_30 rfl).trans ?_
  refine (s_go mt_X10_addNumber dX10_addNumber_31 rfl).trans ?_
  exact q_idiv mt_X10_addNumber dX10_addNumber_33
theorem e_X10_addNumber_39 (sc : SC) (p0 : Nat) (x1 : Int32) (x2 : Int32) (h : AH) : Run sc n_X10_addNumber 39 [aD p0, aI x1, aI x2] none [] h = bI (¬ (nI 10) = 0) (Run sc n_X10_addNumber 46 [aD p0, aI x1, aI x2] none [aI (x2 - x2 / (nI 10) * (nI 10)), aI (nI 48), aD p0] h) := by
  refine (s_go mt_X10_addNumber dX10_addNumber_39 rfl).trans ?_
  refine (s_go mt_X10_addNumber dX10_addNumber_40 rfl).trans ?_
  refine (s_go mt_X10_addNumber dX10_addNumber_42 rfl).trans ?_
  refine (s_go mt_X10_addNumber dX10_addNumber_43 rfl).trans ?_
  exact q_irem mt_X10_addNumber dX10_addNumber_45
theorem e_X10_addNumber_6 (sc : SC) (p0 : Nat) (x1 : Int32) (v2 : AV) (h : AH) : Run sc n_X10_addNumber 6 [aD p0, aI x1, v2] none [] h = Run sc n_X10_addNumber (if 0 ≤ x1 then 21 else 12) [aD p0, aI x1, aI x1] none [] h := by
  refine (s_go mt_X10_addNumber dX10_addNumber_6 rfl).trans ?_
  refine (s_go mt_X10_addNumber dX10_addNumber_7 rfl).trans ?_
  refine (s_go mt_X10_addNumber dX10_addNumber_8 rfl).trans ?_
  exact q_if mt_X10_addNumber dX10_addNumber_9 (fun _ _ _ _ => rfl) rfl
theorem e_X10_addNumber_18 (sc : SC) (p0 : Nat) (x1 : Int32) (x2 : Int32) (h : AH) : Run sc n_X10_addNumber 18 [aD p0, aI x1, aI x2] none [] h = Run sc n_X10_addNumber 21 [aD p0, aI x1, aI (-x1)] none [] h := by
  refine (s_go mt_X10_addNumber dX10_addNumber_18 rfl).trans ?_
  refine (s_go mt_X10_addNumber dX10_addNumber_19 rfl).trans ?_
  refine (s_go mt_X10_addNumber dX10_addNumber_20 rfl).trans ?_
  exact rfl
theorem e_X10_addNumber_34 (sc : SC) (p0 : Nat) (x1 : Int32) (x2 : Int32) (q0 : Nat) (y1 : Int32) (y2 : Int32) (h : AH) : Run sc n_X10_addNumber 34 [aD p0, aI x1, aI x2] none [aI y2, aI y1, aD q0] h = bI (rOK sc h (aD q0) 12 = true) (bC (Call sc n_X10_add [aD q0, aI (((y1 + y2).toUInt32 % 65536).toInt32)] h) (fun v z => Run sc n_X10_addNumber 39 [aD p0, aI x1, aI x2] none (v.toList ++ []) z) (fun E z => some (.inr E, z))) := by
  refine (s_go mt_X10_addNumber dX10_addNumber_34 rfl).trans ?_
  refine (s_go mt_X10_addNumber dX10_addNumber_35 rfl).trans ?_
  exact q_cV mt_X10_addNumber dX10_addNumber_36 rfl mt_X10_add rfl rfl rfl
theorem e_X10_addNumber_46 (sc : SC) (p0 : Nat) (x1 : Int32) (x2 : Int32) (q0 : Nat) (y1 : Int32) (y2 : Int32) (h : AH) : Run sc n_X10_addNumber 46 [aD p0, aI x1, aI x2] none [aI y2, aI y1, aD q0] h = bI (rOK sc h (aD q0) 12 = true) (bC (Call sc n_X10_add [aD q0, aI (((y1 + y2).toUInt32 % 65536).toInt32)] h) (fun v z => Run sc n_X10_addNumber 51 [aD p0, aI x1, aI x2] none (v.toList ++ []) z) (fun E z => some (.inr E, z))) := by
  refine (s_go mt_X10_addNumber dX10_addNumber_46 rfl).trans ?_
  refine (s_go mt_X10_addNumber dX10_addNumber_47 rfl).trans ?_
  exact q_cV mt_X10_addNumber dX10_addNumber_48 rfl mt_X10_add rfl rfl rfl
theorem e_X10_addNumber_51 (sc : SC) (p0 : Nat) (x1 : Int32) (x2 : Int32) (h : AH) : Run sc n_X10_addNumber 51 [aD p0, aI x1, aI x2] none [] h = some (.inl none, h) := by
  exact q_ret (c := (none, h)) mt_X10_addNumber dX10_addNumber_51 rfl
/-! BranchSlotFillerModel.write()I -/
theorem e_X10_write_0 (sc : SC) (p0 : Nat) (v1 : AV) (v2 : AV) (h : AH) : Run sc n_X10_write 0 [aD p0, v1, v2] none [] h = bO (putF h p0 12 0 0 (aI (nI 0))) (fun z => Run sc n_X10_write 5 [aD p0, v1, v2] none [] z) := by
  refine (s_go mt_X10_write dX10_write_0 rfl).trans ?_
  refine (s_go mt_X10_write dX10_write_1 rfl).trans ?_
  exact q_putfield mt_X10_write dX10_write_2 rfl rfl rfl rfl
theorem e_X10_write_12 (sc : SC) (p0 : Nat) (x1 : Int32) (v2 : AV) (h : AH) : Run sc n_X10_write 12 [aD p0, aI x1, v2] none [] h = bI (rOK sc h (aD p0) 12 = true) (bC (Call sc n_X10_entryMany [aD p0] h) (fun v z => Run sc n_X10_write 17 [aD p0, aI x1, v2] none (v.toList ++ [aI x1]) z) (fun E z => some (.inr E, z))) := by
  refine (s_go mt_X10_write dX10_write_12 rfl).trans ?_
  refine (s_go mt_X10_write dX10_write_13 rfl).trans ?_
  exact q_cV mt_X10_write dX10_write_14 rfl mt_X10_entryMany rfl rfl rfl
theorem e_X10_write_20 (sc : SC) (p0 : Nat) (x1 : Int32) (v2 : AV) (h : AH) : Run sc n_X10_write 20 [aD p0, aI x1, v2] none [] h = Run sc n_X10_write (if x1 ≤ 0 then 43 else 24) [aD p0, aI x1, v2] none [] h := by
  refine (s_go mt_X10_write dX10_write_20 rfl).trans ?_
  exact q_if mt_X10_write dX10_write_21 (fun _ _ _ _ => rfl) rfl
theorem e_X10_write_24 (sc : SC) (p0 : Nat) (x1 : Int32) (v2 : AV) (h : AH) : Run sc n_X10_write 24 [aD p0, aI x1, v2] none [] h = bI (rOK sc h (aD p0) 12 = true) (bC (Call sc n_X10_isSlot [aD p0, aI x1] h) (fun v z => Run sc n_X10_write 30 [aD p0, aI x1, v2] none (v.toList ++ [aD p0]) z) (fun E z => some (.inr E, z))) := by
  refine (s_go mt_X10_write dX10_write_24 rfl).trans ?_
  refine (s_go mt_X10_write dX10_write_25 rfl).trans ?_
  refine (s_go mt_X10_write dX10_write_26 rfl).trans ?_
  exact q_cV mt_X10_write dX10_write_27 rfl mt_X10_isSlot rfl rfl rfl
theorem e_X10_write_33 (sc : SC) (p0 : Nat) (x1 : Int32) (v2 : AV) (q0 : Nat) (h : AH) : Run sc n_X10_write 33 [aD p0, aI x1, v2] none [aD q0] h = Run sc n_X10_write 40 [aD p0, aI x1, v2] none [aI (nI 124), aD q0] h := by
  refine (s_go mt_X10_write dX10_write_33 rfl).trans ?_
  refine (s_go mt_X10_write dX10_write_35 rfl).trans ?_
  exact rfl
theorem e_X10_write_38 (sc : SC) (p0 : Nat) (x1 : Int32) (v2 : AV) (q0 : Nat) (h : AH) : Run sc n_X10_write 38 [aD p0, aI x1, v2] none [aD q0] h = Run sc n_X10_write 40 [aD p0, aI x1, v2] none [aI (nI 59), aD q0] h := by
  refine (s_go mt_X10_write dX10_write_38 rfl).trans ?_
  exact rfl
theorem e_X10_write_40 (sc : SC) (p0 : Nat) (x1 : Int32) (v2 : AV) (q0 : Nat) (y1 : Int32) (h : AH) : Run sc n_X10_write 40 [aD p0, aI x1, v2] none [aI y1, aD q0] h = bI (rOK sc h (aD q0) 12 = true) (bC (Call sc n_X10_add [aD q0, aI y1] h) (fun v z => Run sc n_X10_write 43 [aD p0, aI x1, v2] none (v.toList ++ []) z) (fun E z => some (.inr E, z))) := by
  exact q_cV mt_X10_write dX10_write_40 rfl mt_X10_add rfl rfl rfl
theorem e_X10_write_43 (sc : SC) (p0 : Nat) (x1 : Int32) (v2 : AV) (h : AH) : Run sc n_X10_write 43 [aD p0, aI x1, v2] none [] h = bI (rOK sc h (aD p0) 12 = true) (bC (Call sc n_X10_at [aD p0, aI x1, aI (nI 0)] h) (fun v z => Run sc n_X10_write 50 [aD p0, aI x1, v2] none (v.toList ++ [aD p0]) z) (fun E z => some (.inr E, z))) := by
  refine (s_go mt_X10_write dX10_write_43 rfl).trans ?_
  refine (s_go mt_X10_write dX10_write_44 rfl).trans ?_
  refine (s_go mt_X10_write dX10_write_45 rfl).trans ?_
  refine (s_go mt_X10_write dX10_write_46 rfl).trans ?_
  exact q_cV mt_X10_write dX10_write_47 rfl mt_X10_at rfl rfl rfl
theorem e_X10_write_63 (sc : SC) (p0 : Nat) (x1 : Int32) (v2 : AV) (h : AH) : Run sc n_X10_write 63 [aD p0, aI x1, v2] none [] h = bI (rOK sc h (aD p0) 12 = true) (bC (Call sc n_X10_add [aD p0, aI (nI 42)] h) (fun v z => Run sc n_X10_write 69 [aD p0, aI x1, v2] none (v.toList ++ []) z) (fun E z => some (.inr E, z))) := by
  refine (s_go mt_X10_write dX10_write_63 rfl).trans ?_
  refine (s_go mt_X10_write dX10_write_64 rfl).trans ?_
  exact q_cV mt_X10_write dX10_write_66 rfl mt_X10_add rfl rfl rfl
theorem e_X10_write_69 (sc : SC) (p0 : Nat) (x1 : Int32) (v2 : AV) (h : AH) : Run sc n_X10_write 69 [aD p0, aI x1, v2] none [] h = Run sc n_X10_write 71 [aD p0, aI x1, aI (nI 0)] none [] h := by
  refine (s_go mt_X10_write dX10_write_69 rfl).trans ?_
  refine (s_go mt_X10_write dX10_write_70 rfl).trans ?_
  exact rfl
theorem e_X10_write_71 (sc : SC) (p0 : Nat) (x1 : Int32) (x2 : Int32) (h : AH) : Run sc n_X10_write 71 [aD p0, aI x1, aI x2] none [] h = Run sc n_X10_write (if (nI 3) ≤ x2 then 111 else 76) [aD p0, aI x1, aI x2] none [] h := by
  refine (s_go mt_X10_write dX10_write_71 rfl).trans ?_
  refine (s_go mt_X10_write dX10_write_72 rfl).trans ?_
  exact q_icmp mt_X10_write dX10_write_73 (fun _ _ _ _ => rfl) rfl
theorem e_X10_write_76 (sc : SC) (p0 : Nat) (x1 : Int32) (x2 : Int32) (h : AH) : Run sc n_X10_write 76 [aD p0, aI x1, aI x2] none [] h = bI (rOK sc h (aD p0) 12 = true) (bC (Call sc n_X10_at [aD p0, aI x1, aI (nI 0)] h) (fun v z => Run sc n_X10_write 82 [aD p0, aI x1, aI x2] none (v.toList ++ []) z) (fun E z => some (.inr E, z))) := by
  refine (s_go mt_X10_write dX10_write_76 rfl).trans ?_
  refine (s_go mt_X10_write dX10_write_77 rfl).trans ?_
  refine (s_go mt_X10_write dX10_write_78 rfl).trans ?_
  exact q_cV mt_X10_write dX10_write_79 rfl mt_X10_at rfl rfl rfl
theorem e_X10_write_93 (sc : SC) (p0 : Nat) (x1 : Int32) (x2 : Int32) (h : AH) : Run sc n_X10_write 93 [aD p0, aI x1, aI x2] none [] h = bI (rOK sc h (aD p0) 12 = true) (bC (Call sc n_X10_at [aD p0, aI x1, aI ((nI 1) + x2)] h) (fun v z => Run sc n_X10_write 102 [aD p0, aI x1, aI x2] none (v.toList ++ [aD p0]) z) (fun E z => some (.inr E, z))) := by
  refine (s_go mt_X10_write dX10_write_93 rfl).trans ?_
  refine (s_go mt_X10_write dX10_write_94 rfl).trans ?_
  refine (s_go mt_X10_write dX10_write_95 rfl).trans ?_
  refine (s_go mt_X10_write dX10_write_96 rfl).trans ?_
  refine (s_go mt_X10_write dX10_write_97 rfl).trans ?_
  refine (s_go mt_X10_write dX10_write_98 rfl).trans ?_
  exact q_cV mt_X10_write dX10_write_99 rfl mt_X10_at rfl rfl rfl
theorem e_X10_write_105 (sc : SC) (p0 : Nat) (x1 : Int32) (x2 : Int32) (h : AH) : Run sc n_X10_write 105 [aD p0, aI x1, aI x2] none [] h = Run sc n_X10_write 71 [aD p0, aI x1, aI (x2 + nI 1)] none [] h := by
  refine (s_go mt_X10_write dX10_write_105 rfl).trans ?_
  refine (s_go mt_X10_write dX10_write_108 rfl).trans ?_
  exact rfl
theorem e_X10_write_111 (sc : SC) (p0 : Nat) (x1 : Int32) (x2 : Int32) (h : AH) : Run sc n_X10_write 111 [aD p0, aI x1, aI x2] none [] h = Run sc n_X10_write 12 [aD p0, aI (x1 + nI 1), aI x2] none [] h := by
  refine (s_go mt_X10_write dX10_write_111 rfl).trans ?_
  refine (s_go mt_X10_write dX10_write_114 rfl).trans ?_
  exact rfl
theorem e_X10_write_117 (sc : SC) (p0 : Nat) (x1 : Int32) (v2 : AV) (h : AH) : Run sc n_X10_write 117 [aD p0, aI x1, v2] none [] h = bF (getF sc h (aD p0) 12 16) (fun z => Run sc n_X10_write 121 [aD p0, aI x1, v2] none [z] h) := by
  refine (s_go mt_X10_write dX10_write_117 rfl).trans ?_
  exact q_getfield mt_X10_write dX10_write_118 rfl
theorem e_X10_write_5 (sc : SC) (p0 : Nat) (v1 : AV) (v2 : AV) (h : AH) : Run sc n_X10_write 5 [aD p0, v1, v2] none [] h = bO (putF h p0 12 16 0 (aI (nI 0))) (fun z => Run sc n_X10_write 10 [aD p0, v1, v2] none [] z) := by
  refine (s_go mt_X10_write dX10_write_5 rfl).trans ?_
  refine (s_go mt_X10_write dX10_write_6 rfl).trans ?_
  exact q_putfield mt_X10_write dX10_write_7 rfl rfl rfl rfl
theorem e_X10_write_17 (sc : SC) (p0 : Nat) (x1 : Int32) (v2 : AV) (y0 : Int32) (y1 : Int32) (h : AH) : Run sc n_X10_write 17 [aD p0, aI x1, v2] none [aI y1, aI y0] h = Run sc n_X10_write (if y1 ≤ y0 then 117 else 20) [aD p0, aI x1, v2] none [] h := by
  exact q_icmp mt_X10_write dX10_write_17 (fun _ _ _ _ => rfl) rfl
theorem e_X10_write_30 (sc : SC) (p0 : Nat) (x1 : Int32) (v2 : AV) (q0 : Nat) (y1 : Int32) (h : AH) : Run sc n_X10_write 30 [aD p0, aI x1, v2] none [aI y1, aD q0] h = Run sc n_X10_write (if y1 = 0 then 38 else 33) [aD p0, aI x1, v2] none [aD q0] h := by
  exact q_if mt_X10_write dX10_write_30 (fun _ _ _ _ => rfl) rfl
theorem e_X10_write_50 (sc : SC) (p0 : Nat) (x1 : Int32) (v2 : AV) (q0 : Nat) (y1 : Int32) (h : AH) : Run sc n_X10_write 50 [aD p0, aI x1, v2] none [aI y1, aD q0] h = bI (rOK sc h (aD q0) 12 = true) (bC (Call sc n_X10_addKind [aD q0, aI y1] h) (fun v z => Run sc n_X10_write 53 [aD p0, aI x1, v2] none (v.toList ++ []) z) (fun E z => some (.inr E, z))) := by
  exact q_cV mt_X10_write dX10_write_50 rfl mt_X10_addKind rfl rfl rfl
theorem e_X10_write_82 (sc : SC) (p0 : Nat) (x1 : Int32) (x2 : Int32) (y0 : Int32) (h : AH) : Run sc n_X10_write 82 [aD p0, aI x1, aI x2] none [aI y0] h = bC (Call sc n_X10_operandsOf [aI y0] h) (fun v z => Run sc n_X10_write 85 [aD p0, aI x1, aI x2] none (v.toList ++ []) z) (fun E z => some (.inr E, z)) := by
  exact q_cS mt_X10_write dX10_write_82 rfl mt_X10_operandsOf rfl rfl
theorem e_X10_write_102 (sc : SC) (p0 : Nat) (x1 : Int32) (x2 : Int32) (q0 : Nat) (y1 : Int32) (h : AH) : Run sc n_X10_write 102 [aD p0, aI x1, aI x2] none [aI y1, aD q0] h = bI (rOK sc h (aD q0) 12 = true) (bC (Call sc n_X10_addNumber [aD q0, aI y1] h) (fun v z => Run sc n_X10_write 105 [aD p0, aI x1, aI x2] none (v.toList ++ []) z) (fun E z => some (.inr E, z))) := by
  exact q_cV mt_X10_write dX10_write_102 rfl mt_X10_addNumber rfl rfl rfl
theorem e_X10_write_121 (sc : SC) (p0 : Nat) (x1 : Int32) (v2 : AV) (y0 : Int32) (h : AH) : Run sc n_X10_write 121 [aD p0, aI x1, v2] none [aI y0] h = some (.inl (some (aI y0)), h) := by
  exact q_ret (c := (some (aI y0), h)) mt_X10_write dX10_write_121 rfl
theorem e_X10_write_10 (sc : SC) (p0 : Nat) (v1 : AV) (v2 : AV) (h : AH) : Run sc n_X10_write 10 [aD p0, v1, v2] none [] h = Run sc n_X10_write 12 [aD p0, aI (nI 0), v2] none [] h := by
  refine (s_go mt_X10_write dX10_write_10 rfl).trans ?_
  refine (s_go mt_X10_write dX10_write_11 rfl).trans ?_
  exact rfl
theorem e_X10_write_53 (sc : SC) (p0 : Nat) (x1 : Int32) (v2 : AV) (h : AH) : Run sc n_X10_write 53 [aD p0, aI x1, v2] none [] h = bI (rOK sc h (aD p0) 12 = true) (bC (Call sc n_X10_at [aD p0, aI x1, aI (nI 4)] h) (fun v z => Run sc n_X10_write 59 [aD p0, aI x1, v2] none (v.toList ++ []) z) (fun E z => some (.inr E, z))) := by
  refine (s_go mt_X10_write dX10_write_53 rfl).trans ?_
  refine (s_go mt_X10_write dX10_write_54 rfl).trans ?_
  refine (s_go mt_X10_write dX10_write_55 rfl).trans ?_
  exact q_cV mt_X10_write dX10_write_56 rfl mt_X10_at rfl rfl rfl
theorem e_X10_write_85 (sc : SC) (p0 : Nat) (x1 : Int32) (x2 : Int32) (y0 : Int32) (h : AH) : Run sc n_X10_write 85 [aD p0, aI x1, aI x2] none [aI y0] h = Run sc n_X10_write (if ¬ ((y0 >>> (x2 &&& 31)) &&& (nI 1)) = (nI 1) then 105 else 93) [aD p0, aI x1, aI x2] none [] h := by
  refine (s_go mt_X10_write dX10_write_85 rfl).trans ?_
  refine (s_go mt_X10_write dX10_write_86 rfl).trans ?_
  refine (s_go mt_X10_write dX10_write_87 rfl).trans ?_
  refine (s_go mt_X10_write dX10_write_88 rfl).trans ?_
  refine (s_go mt_X10_write dX10_write_89 rfl).trans ?_
  exact q_icmp mt_X10_write dX10_write_90 (fun _ _ _ _ => rfl) rfl
theorem e_X10_write_59 (sc : SC) (p0 : Nat) (x1 : Int32) (v2 : AV) (y0 : Int32) (h : AH) : Run sc n_X10_write 59 [aD p0, aI x1, v2] none [aI y0] h = Run sc n_X10_write (if ¬ y0 = (nI 1) then 69 else 63) [aD p0, aI x1, v2] none [] h := by
  refine (s_go mt_X10_write dX10_write_59 rfl).trans ?_
  exact q_icmp mt_X10_write dX10_write_60 (fun _ _ _ _ => rfl) rfl
/-! BranchSlotFillerModel.text(I)C -/
theorem e_X10_text_0 (sc : SC) (p0 : Nat) (x1 : Int32) (h : AH) : Run sc n_X10_text 0 [aD p0, aI x1] none [] h = bF (getF sc h (aD p0) 12 16) (fun z => Run sc n_X10_text 7 [aD p0, aI x1] none [z, aI (nI 0), aI x1, aD p0] h) := by
  refine (s_go mt_X10_text dX10_text_0 rfl).trans ?_
  refine (s_go mt_X10_text dX10_text_1 rfl).trans ?_
  refine (s_go mt_X10_text dX10_text_2 rfl).trans ?_
  refine (s_go mt_X10_text dX10_text_3 rfl).trans ?_
  exact q_getfield mt_X10_text dX10_text_4 rfl
theorem e_X10_text_15 (sc : SC) (p0 : Nat) (x1 : Int32) (q0 : Nat) (h : AH) : Run sc n_X10_text 15 [aD p0, aI x1] none [aD q0] h = Run sc n_X10_text 20 [aD p0, aI x1] none [aI (nI 0), aD q0] h := by
  refine (s_go mt_X10_text dX10_text_15 rfl).trans ?_
  refine (s_go mt_X10_text dX10_text_16 rfl).trans ?_
  exact rfl
theorem e_X10_text_19 (sc : SC) (p0 : Nat) (x1 : Int32) (q0 : Nat) (h : AH) : Run sc n_X10_text 19 [aD p0, aI x1] none [aD q0] h = Run sc n_X10_text 20 [aD p0, aI x1] none [aI (nI 1), aD q0] h := by
  refine (s_go mt_X10_text dX10_text_19 rfl).trans ?_
  exact rfl
theorem e_X10_text_20 (sc : SC) (p0 : Nat) (x1 : Int32) (q0 : Nat) (y1 : Int32) (h : AH) : Run sc n_X10_text 20 [aD p0, aI x1] none [aI y1, aD q0] h = bO (putF h q0 12 0 0 (aI y1)) (fun z => Run sc n_X10_text 23 [aD p0, aI x1] none [] z) := by
  exact q_putfield mt_X10_text dX10_text_20 rfl rfl rfl rfl
theorem e_X10_text_30 (sc : SC) (p0 : Nat) (x1 : Int32) (h : AH) : Run sc n_X10_text 30 [aD p0, aI x1] none [] h = bF (getF sc h (aD p0) 12 15) (fun z => Run sc n_X10_text 34 [aD p0, aI x1] none [z] h) := by
  refine (s_go mt_X10_text dX10_text_30 rfl).trans ?_
  exact q_getfield mt_X10_text dX10_text_31 rfl
theorem e_X10_text_39 (sc : SC) (p0 : Nat) (x1 : Int32) (h : AH) : Run sc n_X10_text 39 [aD p0, aI x1] none [] h = Run sc n_X10_text 40 [aD p0, aI x1] none [aI (nI 0)] h := by
  refine (s_go mt_X10_text dX10_text_39 rfl).trans ?_
  exact rfl
theorem e_X10_text_40 (sc : SC) (p0 : Nat) (x1 : Int32) (y0 : Int32) (h : AH) : Run sc n_X10_text 40 [aD p0, aI x1] none [aI y0] h = bI (retK (some FieldType.char) y0 = true) (some (.inl (some (aI y0)), h)) := by
  exact q_iret mt_X10_text dX10_text_40
theorem e_X10_text_7 (sc : SC) (p0 : Nat) (x1 : Int32) (q0 : Nat) (y1 : Int32) (y2 : Int32) (y3 : Int32) (h : AH) : Run sc n_X10_text 7 [aD p0, aI x1] none [aI y3, aI y2, aI y1, aD q0] h = bC (Call sc n_X10_isIn [aI y1, aI y2, aI (y3 - (nI 1))] h) (fun v z => Run sc n_X10_text 12 [aD p0, aI x1] none (v.toList ++ [aD q0]) z) (fun E z => some (.inr E, z)) := by
  refine (s_go mt_X10_text dX10_text_7 rfl).trans ?_
  refine (s_go mt_X10_text dX10_text_8 rfl).trans ?_
  exact q_cS mt_X10_text dX10_text_9 rfl mt_X10_isIn rfl rfl
theorem e_X10_text_23 (sc : SC) (p0 : Nat) (x1 : Int32) (h : AH) : Run sc n_X10_text 23 [aD p0, aI x1] none [] h = bF (getF sc h (aD p0) 12 0) (fun z => Run sc n_X10_text 27 [aD p0, aI x1] none [z] h) := by
  refine (s_go mt_X10_text dX10_text_23 rfl).trans ?_
  exact q_getfield mt_X10_text dX10_text_24 rfl
theorem e_X10_text_34 (sc : SC) (p0 : Nat) (x1 : Int32) (q0 : Nat) (h : AH) : Run sc n_X10_text 34 [aD p0, aI x1] none [aD q0] h = bO (ldI sc h (fun t => t == 1) (aD q0) x1) (fun z => Run sc n_X10_text 36 [aD p0, aI x1] none [aI z] h) := by
  refine (s_go mt_X10_text dX10_text_34 rfl).trans ?_
  exact q_caload mt_X10_text dX10_text_35
theorem e_X10_text_12 (sc : SC) (p0 : Nat) (x1 : Int32) (q0 : Nat) (y1 : Int32) (h : AH) : Run sc n_X10_text 12 [aD p0, aI x1] none [aI y1, aD q0] h = Run sc n_X10_text (if y1 = 0 then 19 else 15) [aD p0, aI x1] none [aD q0] h := by
  exact q_if mt_X10_text dX10_text_12 (fun _ _ _ _ => rfl) rfl
theorem e_X10_text_27 (sc : SC) (p0 : Nat) (x1 : Int32) (y0 : Int32) (h : AH) : Run sc n_X10_text 27 [aD p0, aI x1] none [aI y0] h = Run sc n_X10_text (if ¬ y0 = 0 then 39 else 30) [aD p0, aI x1] none [] h := by
  exact q_if mt_X10_text dX10_text_27 (fun _ _ _ _ => rfl) rfl
theorem e_X10_text_36 (sc : SC) (p0 : Nat) (x1 : Int32) (y0 : Int32) (h : AH) : Run sc n_X10_text 36 [aD p0, aI x1] none [aI y0] h = Run sc n_X10_text 40 [aD p0, aI x1] none [aI y0] h := by
  refine (s_go mt_X10_text dX10_text_36 rfl).trans ?_
  exact rfl
/-! BranchSlotFillerModel.placeOf(ZI)I -/
theorem e_X10_placeOf_0 (sc : SC) (x0 : Int32) (x1 : Int32) (h : AH) : Run sc n_X10_placeOf 0 [aI x0, aI x1] none [] h = Run sc n_X10_placeOf (if x0 = 0 then 11 else 6) [aI x0, aI x1] none [aI (nI 0), aI x1] h := by
  refine (s_go mt_X10_placeOf dX10_placeOf_0 rfl).trans ?_
  refine (s_go mt_X10_placeOf dX10_placeOf_1 rfl).trans ?_
  refine (s_go mt_X10_placeOf dX10_placeOf_2 rfl).trans ?_
  exact q_if mt_X10_placeOf dX10_placeOf_3 (fun _ _ _ _ => rfl) rfl
theorem e_X10_placeOf_6 (sc : SC) (x0 : Int32) (x1 : Int32) (y0 : Int32) (y1 : Int32) (h : AH) : Run sc n_X10_placeOf 6 [aI x0, aI x1] none [aI y1, aI y0] h = Run sc n_X10_placeOf 13 [aI x0, aI x1] none [aI (nI 15), aI y1, aI y0] h := by
  refine (s_go mt_X10_placeOf dX10_placeOf_6 rfl).trans ?_
  refine (s_go mt_X10_placeOf dX10_placeOf_8 rfl).trans ?_
  exact rfl
theorem e_X10_placeOf_11 (sc : SC) (x0 : Int32) (x1 : Int32) (y0 : Int32) (y1 : Int32) (h : AH) : Run sc n_X10_placeOf 11 [aI x0, aI x1] none [aI y1, aI y0] h = Run sc n_X10_placeOf 13 [aI x0, aI x1] none [aI (nI 7), aI y1, aI y0] h := by
  refine (s_go mt_X10_placeOf dX10_placeOf_11 rfl).trans ?_
  exact rfl
theorem e_X10_placeOf_13 (sc : SC) (x0 : Int32) (x1 : Int32) (y0 : Int32) (y1 : Int32) (y2 : Int32) (h : AH) : Run sc n_X10_placeOf 13 [aI x0, aI x1] none [aI y2, aI y1, aI y0] h = bC (Call sc n_X10_isIn [aI y0, aI y1, aI y2] h) (fun v z => Run sc n_X10_placeOf 16 [aI x0, aI x1] none (v.toList ++ []) z) (fun E z => some (.inr E, z)) := by
  exact q_cS mt_X10_placeOf dX10_placeOf_13 rfl mt_X10_isIn rfl rfl
theorem e_X10_placeOf_19 (sc : SC) (x0 : Int32) (x1 : Int32) (h : AH) : Run sc n_X10_placeOf 19 [aI x0, aI x1] none [] h = Run sc n_X10_placeOf (if x0 = 0 then 28 else 23) [aI x0, aI x1] none [] h := by
  refine (s_go mt_X10_placeOf dX10_placeOf_19 rfl).trans ?_
  exact q_if mt_X10_placeOf dX10_placeOf_20 (fun _ _ _ _ => rfl) rfl
theorem e_X10_placeOf_23 (sc : SC) (x0 : Int32) (x1 : Int32) (h : AH) : Run sc n_X10_placeOf 23 [aI x0, aI x1] none [] h = Run sc n_X10_placeOf 29 [aI x0, aI x1] none [aI (nI 8)] h := by
  refine (s_go mt_X10_placeOf dX10_placeOf_23 rfl).trans ?_
  refine (s_go mt_X10_placeOf dX10_placeOf_25 rfl).trans ?_
  exact rfl
theorem e_X10_placeOf_28 (sc : SC) (x0 : Int32) (x1 : Int32) (h : AH) : Run sc n_X10_placeOf 28 [aI x0, aI x1] none [] h = Run sc n_X10_placeOf 29 [aI x0, aI x1] none [aI (nI 0)] h := by
  refine (s_go mt_X10_placeOf dX10_placeOf_28 rfl).trans ?_
  exact rfl
theorem e_X10_placeOf_29 (sc : SC) (x0 : Int32) (x1 : Int32) (y0 : Int32) (h : AH) : Run sc n_X10_placeOf 29 [aI x0, aI x1] none [aI y0] h = Run sc n_X10_placeOf 35 [aI x0, aI x1] none [aI (y0 + x1)] h := by
  refine (s_go mt_X10_placeOf dX10_placeOf_29 rfl).trans ?_
  refine (s_go mt_X10_placeOf dX10_placeOf_30 rfl).trans ?_
  refine (s_go mt_X10_placeOf dX10_placeOf_31 rfl).trans ?_
  exact rfl
theorem e_X10_placeOf_34 (sc : SC) (x0 : Int32) (x1 : Int32) (h : AH) : Run sc n_X10_placeOf 34 [aI x0, aI x1] none [] h = Run sc n_X10_placeOf 35 [aI x0, aI x1] none [aI (-1)] h := by
  refine (s_go mt_X10_placeOf dX10_placeOf_34 rfl).trans ?_
  exact rfl
theorem e_X10_placeOf_35 (sc : SC) (x0 : Int32) (x1 : Int32) (y0 : Int32) (h : AH) : Run sc n_X10_placeOf 35 [aI x0, aI x1] none [aI y0] h = some (.inl (some (aI y0)), h) := by
  exact q_ret (c := (some (aI y0), h)) mt_X10_placeOf dX10_placeOf_35 rfl
theorem e_X10_placeOf_16 (sc : SC) (x0 : Int32) (x1 : Int32) (y0 : Int32) (h : AH) : Run sc n_X10_placeOf 16 [aI x0, aI x1] none [aI y0] h = Run sc n_X10_placeOf (if y0 = 0 then 34 else 19) [aI x0, aI x1] none [] h := by
  exact q_if mt_X10_placeOf dX10_placeOf_16 (fun _ _ _ _ => rfl) rfl
/-! BranchSlotFillerModel.setInitial(ZII)I -/
theorem e_X10_setInitial_0 (sc : SC) (p0 : Nat) (x1 : Int32) (x2 : Int32) (x3 : Int32) (v4 : AV) (h : AH) : Run sc n_X10_setInitial 0 [aD p0, aI x1, aI x2, aI x3, v4] none [] h = bC (Call sc n_X10_placeOf [aI x1, aI x2] h) (fun v z => Run sc n_X10_setInitial 6 [aD p0, aI x1, aI x2, aI x3, v4] none (v.toList ++ [aD p0]) z) (fun E z => some (.inr E, z)) := by
  refine (s_go mt_X10_setInitial dX10_setInitial_0 rfl).trans ?_
  refine (s_go mt_X10_setInitial dX10_setInitial_1 rfl).trans ?_
  refine (s_go mt_X10_setInitial dX10_setInitial_2 rfl).trans ?_
  exact q_cS mt_X10_setInitial dX10_setInitial_3 rfl mt_X10_placeOf rfl rfl
theorem e_X10_setInitial_10 (sc : SC) (p0 : Nat) (x1 : Int32) (x2 : Int32) (x3 : Int32) (v4 : AV) (q0 : Nat) (h : AH) : Run sc n_X10_setInitial 10 [aD p0, aI x1, aI x2, aI x3, v4] none [aD q0] h = Run sc n_X10_setInitial 15 [aD p0, aI x1, aI x2, aI x3, v4] none [aI (nI 1), aD q0] h := by
  refine (s_go mt_X10_setInitial dX10_setInitial_10 rfl).trans ?_
  refine (s_go mt_X10_setInitial dX10_setInitial_11 rfl).trans ?_
  exact rfl
theorem e_X10_setInitial_14 (sc : SC) (p0 : Nat) (x1 : Int32) (x2 : Int32) (x3 : Int32) (v4 : AV) (q0 : Nat) (h : AH) : Run sc n_X10_setInitial 14 [aD p0, aI x1, aI x2, aI x3, v4] none [aD q0] h = Run sc n_X10_setInitial 15 [aD p0, aI x1, aI x2, aI x3, v4] none [aI (nI 0), aD q0] h := by
  refine (s_go mt_X10_setInitial dX10_setInitial_14 rfl).trans ?_
  exact rfl
theorem e_X10_setInitial_15 (sc : SC) (p0 : Nat) (x1 : Int32) (x2 : Int32) (x3 : Int32) (v4 : AV) (q0 : Nat) (y1 : Int32) (h : AH) : Run sc n_X10_setInitial 15 [aD p0, aI x1, aI x2, aI x3, v4] none [aI y1, aD q0] h = bO (putF h q0 12 0 0 (aI y1)) (fun z => Run sc n_X10_setInitial 18 [aD p0, aI x1, aI x2, aI x3, v4] none [] z) := by
  exact q_putfield mt_X10_setInitial dX10_setInitial_15 rfl rfl rfl rfl
theorem e_X10_setInitial_25 (sc : SC) (p0 : Nat) (x1 : Int32) (x2 : Int32) (x3 : Int32) (v4 : AV) (h : AH) : Run sc n_X10_setInitial 25 [aD p0, aI x1, aI x2, aI x3, v4] none [] h = some (.inl (some (aI (nI 0))), h) := by
  refine (s_go mt_X10_setInitial dX10_setInitial_25 rfl).trans ?_
  exact q_ret (c := (some (aI (nI 0)), h)) mt_X10_setInitial dX10_setInitial_26 rfl
theorem e_X10_setInitial_27 (sc : SC) (p0 : Nat) (x1 : Int32) (x2 : Int32) (x3 : Int32) (v4 : AV) (h : AH) : Run sc n_X10_setInitial 27 [aD p0, aI x1, aI x2, aI x3, v4] none [] h = bF (getF sc h (aD p0) 12 17) (fun z => Run sc n_X10_setInitial 31 [aD p0, aI x1, aI x2, aI x3, v4] none [z] h) := by
  refine (s_go mt_X10_setInitial dX10_setInitial_27 rfl).trans ?_
  exact q_getfield mt_X10_setInitial dX10_setInitial_28 rfl
theorem e_X10_setInitial_6 (sc : SC) (p0 : Nat) (x1 : Int32) (x2 : Int32) (x3 : Int32) (v4 : AV) (q0 : Nat) (y1 : Int32) (h : AH) : Run sc n_X10_setInitial 6 [aD p0, aI x1, aI x2, aI x3, v4] none [aI y1, aD q0] h = Run sc n_X10_setInitial (if ¬ y1 = (-1) then 14 else 10) [aD p0, aI x1, aI x2, aI x3, v4] none [aD q0] h := by
  refine (s_go mt_X10_setInitial dX10_setInitial_6 rfl).trans ?_
  exact q_icmp mt_X10_setInitial dX10_setInitial_7 (fun _ _ _ _ => rfl) rfl
theorem e_X10_setInitial_18 (sc : SC) (p0 : Nat) (x1 : Int32) (x2 : Int32) (x3 : Int32) (v4 : AV) (h : AH) : Run sc n_X10_setInitial 18 [aD p0, aI x1, aI x2, aI x3, v4] none [] h = bF (getF sc h (aD p0) 12 0) (fun z => Run sc n_X10_setInitial 22 [aD p0, aI x1, aI x2, aI x3, v4] none [z] h) := by
  refine (s_go mt_X10_setInitial dX10_setInitial_18 rfl).trans ?_
  exact q_getfield mt_X10_setInitial dX10_setInitial_19 rfl
theorem e_X10_setInitial_31 (sc : SC) (p0 : Nat) (x1 : Int32) (x2 : Int32) (x3 : Int32) (v4 : AV) (q0 : Nat) (h : AH) : Run sc n_X10_setInitial 31 [aD p0, aI x1, aI x2, aI x3, v4] none [aD q0] h = bC (Call sc n_X10_placeOf [aI x1, aI x2] h) (fun v z => Run sc n_X10_setInitial 36 [aD p0, aI x1, aI x2, aI x3, v4] none (v.toList ++ [aD q0]) z) (fun E z => some (.inr E, z)) := by
  refine (s_go mt_X10_setInitial dX10_setInitial_31 rfl).trans ?_
  refine (s_go mt_X10_setInitial dX10_setInitial_32 rfl).trans ?_
  exact q_cS mt_X10_setInitial dX10_setInitial_33 rfl mt_X10_placeOf rfl rfl
theorem e_X10_setInitial_22 (sc : SC) (p0 : Nat) (x1 : Int32) (x2 : Int32) (x3 : Int32) (v4 : AV) (y0 : Int32) (h : AH) : Run sc n_X10_setInitial 22 [aD p0, aI x1, aI x2, aI x3, v4] none [aI y0] h = Run sc n_X10_setInitial (if y0 = 0 then 27 else 25) [aD p0, aI x1, aI x2, aI x3, v4] none [] h := by
  exact q_if mt_X10_setInitial dX10_setInitial_22 (fun _ _ _ _ => rfl) rfl
theorem e_X10_setInitial_36 (sc : SC) (p0 : Nat) (x1 : Int32) (x2 : Int32) (x3 : Int32) (v4 : AV) (q0 : Nat) (y1 : Int32) (h : AH) : Run sc n_X10_setInitial 36 [aD p0, aI x1, aI x2, aI x3, v4] none [aI y1, aD q0] h = bO (ldI sc h (fun t => t == 0) (aD q0) y1) (fun z => Run sc n_X10_setInitial 37 [aD p0, aI x1, aI x2, aI x3, v4] none [aI z] h) := by
  exact q_iaload mt_X10_setInitial dX10_setInitial_36
theorem e_X10_setInitial_37 (sc : SC) (p0 : Nat) (x1 : Int32) (x2 : Int32) (x3 : Int32) (v4 : AV) (y0 : Int32) (h : AH) : Run sc n_X10_setInitial 37 [aD p0, aI x1, aI x2, aI x3, v4] none [aI y0] h = bF (getF sc h (aD p0) 12 17) (fun z => Run sc n_X10_setInitial 43 [aD p0, aI x1, aI x2, aI x3, aI y0] none [z] h) := by
  refine (s_go mt_X10_setInitial dX10_setInitial_37 rfl).trans ?_
  refine (s_go mt_X10_setInitial dX10_setInitial_39 rfl).trans ?_
  exact q_getfield mt_X10_setInitial dX10_setInitial_40 rfl
theorem e_X10_setInitial_43 (sc : SC) (p0 : Nat) (x1 : Int32) (x2 : Int32) (x3 : Int32) (x4 : Int32) (q0 : Nat) (h : AH) : Run sc n_X10_setInitial 43 [aD p0, aI x1, aI x2, aI x3, aI x4] none [aD q0] h = bC (Call sc n_X10_placeOf [aI x1, aI x2] h) (fun v z => Run sc n_X10_setInitial 48 [aD p0, aI x1, aI x2, aI x3, aI x4] none (v.toList ++ [aD q0]) z) (fun E z => some (.inr E, z)) := by
  refine (s_go mt_X10_setInitial dX10_setInitial_43 rfl).trans ?_
  refine (s_go mt_X10_setInitial dX10_setInitial_44 rfl).trans ?_
  exact q_cS mt_X10_setInitial dX10_setInitial_45 rfl mt_X10_placeOf rfl rfl
theorem e_X10_setInitial_48 (sc : SC) (p0 : Nat) (x1 : Int32) (x2 : Int32) (x3 : Int32) (x4 : Int32) (q0 : Nat) (y1 : Int32) (h : AH) : Run sc n_X10_setInitial 48 [aD p0, aI x1, aI x2, aI x3, aI x4] none [aI y1, aD q0] h = bO (stI h (fun t => t == 0) q0 y1 x3) (fun z => Run sc n_X10_setInitial 50 [aD p0, aI x1, aI x2, aI x3, aI x4] none [] z) := by
  refine (s_go mt_X10_setInitial dX10_setInitial_48 rfl).trans ?_
  exact q_iastore mt_X10_setInitial dX10_setInitial_49
theorem e_X10_setInitial_50 (sc : SC) (p0 : Nat) (x1 : Int32) (x2 : Int32) (x3 : Int32) (x4 : Int32) (h : AH) : Run sc n_X10_setInitial 50 [aD p0, aI x1, aI x2, aI x3, aI x4] none [] h = some (.inl (some (aI x4)), h) := by
  refine (s_go mt_X10_setInitial dX10_setInitial_50 rfl).trans ?_
  exact q_ret (c := (some (aI x4), h)) mt_X10_setInitial dX10_setInitial_52 rfl
/-! BranchSlotFillerModel.partOf(ZII)I -/
theorem e_X10_partOf_0 (sc : SC) (p0 : Nat) (x1 : Int32) (x2 : Int32) (x3 : Int32) (h : AH) : Run sc n_X10_partOf 0 [aD p0, aI x1, aI x2, aI x3] none [] h = Run sc n_X10_partOf (if x1 = 0 then 13 else 4) [aD p0, aI x1, aI x2, aI x3] none [] h := by
  refine (s_go mt_X10_partOf dX10_partOf_0 rfl).trans ?_
  exact q_if mt_X10_partOf dX10_partOf_1 (fun _ _ _ _ => rfl) rfl
theorem e_X10_partOf_4 (sc : SC) (p0 : Nat) (x1 : Int32) (x2 : Int32) (x3 : Int32) (h : AH) : Run sc n_X10_partOf 4 [aD p0, aI x1, aI x2, aI x3] none [] h = bI (rOK sc h (aD p0) 12 = true) (bC (Call sc n_X10_at [aD p0, aI x2, aI x3] h) (fun v z => Run sc n_X10_partOf 10 [aD p0, aI x1, aI x2, aI x3] none (v.toList ++ []) z) (fun E z => some (.inr E, z))) := by
  refine (s_go mt_X10_partOf dX10_partOf_4 rfl).trans ?_
  refine (s_go mt_X10_partOf dX10_partOf_5 rfl).trans ?_
  refine (s_go mt_X10_partOf dX10_partOf_6 rfl).trans ?_
  exact q_cV mt_X10_partOf dX10_partOf_7 rfl mt_X10_at rfl rfl rfl
theorem e_X10_partOf_13 (sc : SC) (p0 : Nat) (x1 : Int32) (x2 : Int32) (x3 : Int32) (h : AH) : Run sc n_X10_partOf 13 [aD p0, aI x1, aI x2, aI x3] none [] h = bF (getF sc h (aD p0) 12 1) (fun z => Run sc n_X10_partOf 17 [aD p0, aI x1, aI x2, aI x3] none [z] h) := by
  refine (s_go mt_X10_partOf dX10_partOf_13 rfl).trans ?_
  exact q_getfield mt_X10_partOf dX10_partOf_14 rfl
theorem e_X10_partOf_23 (sc : SC) (p0 : Nat) (x1 : Int32) (x2 : Int32) (x3 : Int32) (y0 : Int32) (h : AH) : Run sc n_X10_partOf 23 [aD p0, aI x1, aI x2, aI x3] none [aI y0] h = some (.inl (some (aI y0)), h) := by
  exact q_ret (c := (some (aI y0), h)) mt_X10_partOf dX10_partOf_23 rfl
theorem e_X10_partOf_10 (sc : SC) (p0 : Nat) (x1 : Int32) (x2 : Int32) (x3 : Int32) (y0 : Int32) (h : AH) : Run sc n_X10_partOf 10 [aD p0, aI x1, aI x2, aI x3] none [aI y0] h = Run sc n_X10_partOf 23 [aD p0, aI x1, aI x2, aI x3] none [aI y0] h := by
  refine (s_go mt_X10_partOf dX10_partOf_10 rfl).trans ?_
  exact rfl
theorem e_X10_partOf_17 (sc : SC) (p0 : Nat) (x1 : Int32) (x2 : Int32) (x3 : Int32) (q0 : Nat) (h : AH) : Run sc n_X10_partOf 17 [aD p0, aI x1, aI x2, aI x3] none [aD q0] h = bO (ldI sc h (fun t => t == 0) (aD q0) (((nI 4) * x2) + x3)) (fun z => Run sc n_X10_partOf 23 [aD p0, aI x1, aI x2, aI x3] none [aI z] h) := by
  refine (s_go mt_X10_partOf dX10_partOf_17 rfl).trans ?_
  refine (s_go mt_X10_partOf dX10_partOf_18 rfl).trans ?_
  refine (s_go mt_X10_partOf dX10_partOf_19 rfl).trans ?_
  refine (s_go mt_X10_partOf dX10_partOf_20 rfl).trans ?_
  refine (s_go mt_X10_partOf dX10_partOf_21 rfl).trans ?_
  exact q_iaload mt_X10_partOf dX10_partOf_22
/-! BranchSlotFillerModel.execute(ZI)V -/
theorem e_X10_execute_0 (sc : SC) (p0 : Nat) (x1 : Int32) (x2 : Int32) (v3 : AV) (v4 : AV) (v5 : AV) (h : AH) : Run sc n_X10_execute 0 [aD p0, aI x1, aI x2, v3, v4, v5] none [] h = bI (rOK sc h (aD p0) 12 = true) (bC (Call sc n_X10_partOf [aD p0, aI x1, aI x2, aI (nI 1)] h) (fun v z => Run sc n_X10_execute 7 [aD p0, aI x1, aI x2, v3, v4, v5] none (v.toList ++ []) z) (fun E z => some (.inr E, z))) := by
  refine (s_go mt_X10_execute dX10_execute_0 rfl).trans ?_
  refine (s_go mt_X10_execute dX10_execute_1 rfl).trans ?_
  refine (s_go mt_X10_execute dX10_execute_2 rfl).trans ?_
  refine (s_go mt_X10_execute dX10_execute_3 rfl).trans ?_
  exact q_cV mt_X10_execute dX10_execute_4 rfl mt_X10_partOf rfl rfl rfl
theorem e_X10_execute_84 (sc : SC) (p0 : Nat) (x1 : Int32) (x2 : Int32) (x3 : Int32) (x4 : Int32) (x5 : Int32) (h : AH) : Run sc n_X10_execute 84 [aD p0, aI x1, aI x2, aI x3, aI x4, aI x5] none [] h = bF (getF sc h (aD p0) 12 18) (fun z => Run sc n_X10_execute 88 [aD p0, aI x1, aI x2, aI x3, aI x4, aI x5] none [z] h) := by
  refine (s_go mt_X10_execute dX10_execute_84 rfl).trans ?_
  exact q_getfield mt_X10_execute dX10_execute_85 rfl
theorem e_X10_execute_95 (sc : SC) (p0 : Nat) (x1 : Int32) (x2 : Int32) (x3 : Int32) (x4 : Int32) (x5 : Int32) (h : AH) : Run sc n_X10_execute 95 [aD p0, aI x1, aI x2, aI x3, aI x4, aI x5] none [] h = bF (getF sc h (aD p0) 12 18) (fun z => Run sc n_X10_execute 99 [aD p0, aI x1, aI x2, aI x3, aI x4, aI x5] none [z] h) := by
  refine (s_go mt_X10_execute dX10_execute_95 rfl).trans ?_
  exact q_getfield mt_X10_execute dX10_execute_96 rfl
theorem e_X10_execute_111 (sc : SC) (p0 : Nat) (x1 : Int32) (x2 : Int32) (x3 : Int32) (x4 : Int32) (x5 : Int32) (h : AH) : Run sc n_X10_execute 111 [aD p0, aI x1, aI x2, aI x3, aI x4, aI x5] none [] h = bF (getF sc h (aD p0) 12 18) (fun z => Run sc n_X10_execute 115 [aD p0, aI x1, aI x2, aI x3, aI x4, aI x5] none [z] h) := by
  refine (s_go mt_X10_execute dX10_execute_111 rfl).trans ?_
  exact q_getfield mt_X10_execute dX10_execute_112 rfl
theorem e_X10_execute_135 (sc : SC) (p0 : Nat) (x1 : Int32) (x2 : Int32) (x3 : Int32) (x4 : Int32) (x5 : Int32) (h : AH) : Run sc n_X10_execute 135 [aD p0, aI x1, aI x2, aI x3, aI x4, aI x5] none [] h = bF (getF sc h (aD p0) 12 18) (fun z => Run sc n_X10_execute 139 [aD p0, aI x1, aI x2, aI x3, aI x4, aI x5] none [z] h) := by
  refine (s_go mt_X10_execute dX10_execute_135 rfl).trans ?_
  exact q_getfield mt_X10_execute dX10_execute_136 rfl
theorem e_X10_execute_159 (sc : SC) (p0 : Nat) (x1 : Int32) (x2 : Int32) (x3 : Int32) (x4 : Int32) (x5 : Int32) (h : AH) : Run sc n_X10_execute 159 [aD p0, aI x1, aI x2, aI x3, aI x4, aI x5] none [] h = bF (getF sc h (aD p0) 12 18) (fun z => Run sc n_X10_execute 163 [aD p0, aI x1, aI x2, aI x3, aI x4, aI x5] none [z] h) := by
  refine (s_go mt_X10_execute dX10_execute_159 rfl).trans ?_
  exact q_getfield mt_X10_execute dX10_execute_160 rfl
theorem e_X10_execute_189 (sc : SC) (p0 : Nat) (x1 : Int32) (x2 : Int32) (x3 : Int32) (x4 : Int32) (x5 : Int32) (h : AH) : Run sc n_X10_execute 189 [aD p0, aI x1, aI x2, aI x3, aI x4, aI x5] none [] h = bF (getF sc h (aD p0) 12 18) (fun z => Run sc n_X10_execute 193 [aD p0, aI x1, aI x2, aI x3, aI x4, aI x5] none [z] h) := by
  refine (s_go mt_X10_execute dX10_execute_189 rfl).trans ?_
  exact q_getfield mt_X10_execute dX10_execute_190 rfl
theorem e_X10_execute_219 (sc : SC) (p0 : Nat) (x1 : Int32) (x2 : Int32) (x3 : Int32) (x4 : Int32) (x5 : Int32) (h : AH) : Run sc n_X10_execute 219 [aD p0, aI x1, aI x2, aI x3, aI x4, aI x5] none [] h = bF (getF sc h (aD p0) 12 19) (fun z => Run sc n_X10_execute 223 [aD p0, aI x1, aI x2, aI x3, aI x4, aI x5] none [z] h) := by
  refine (s_go mt_X10_execute dX10_execute_219 rfl).trans ?_
  exact q_getfield mt_X10_execute dX10_execute_220 rfl
theorem e_X10_execute_247 (sc : SC) (p0 : Nat) (x1 : Int32) (x2 : Int32) (x3 : Int32) (x4 : Int32) (x5 : Int32) (h : AH) : Run sc n_X10_execute 247 [aD p0, aI x1, aI x2, aI x3, aI x4, aI x5] none [] h = some (.inl none, h) := by
  exact q_ret (c := (none, h)) mt_X10_execute dX10_execute_247 rfl
theorem e_X10_execute_7 (sc : SC) (p0 : Nat) (x1 : Int32) (x2 : Int32) (v3 : AV) (v4 : AV) (v5 : AV) (y0 : Int32) (h : AH) : Run sc n_X10_execute 7 [aD p0, aI x1, aI x2, v3, v4, v5] none [aI y0] h = bI (rOK sc h (aD p0) 12 = true) (bC (Call sc n_X10_partOf [aD p0, aI x1, aI x2, aI (nI 2)] h) (fun v z => Run sc n_X10_execute 15 [aD p0, aI x1, aI x2, aI y0, v4, v5] none (v.toList ++ []) z) (fun E z => some (.inr E, z))) := by
  refine (s_go mt_X10_execute dX10_execute_7 rfl).trans ?_
  refine (s_go mt_X10_execute dX10_execute_8 rfl).trans ?_
  refine (s_go mt_X10_execute dX10_execute_9 rfl).trans ?_
  refine (s_go mt_X10_execute dX10_execute_10 rfl).trans ?_
  refine (s_go mt_X10_execute dX10_execute_11 rfl).trans ?_
  exact q_cV mt_X10_execute dX10_execute_12 rfl mt_X10_partOf rfl rfl rfl
theorem e_X10_execute_88 (sc : SC) (p0 : Nat) (x1 : Int32) (x2 : Int32) (x3 : Int32) (x4 : Int32) (x5 : Int32) (q0 : Nat) (h : AH) : Run sc n_X10_execute 88 [aD p0, aI x1, aI x2, aI x3, aI x4, aI x5] none [aD q0] h = bO (stI h (fun t => t == 0) q0 x3 x5) (fun z => Run sc n_X10_execute 92 [aD p0, aI x1, aI x2, aI x3, aI x4, aI x5] none [] z) := by
  refine (s_go mt_X10_execute dX10_execute_88 rfl).trans ?_
  refine (s_go mt_X10_execute dX10_execute_89 rfl).trans ?_
  exact q_iastore mt_X10_execute dX10_execute_91
theorem e_X10_execute_99 (sc : SC) (p0 : Nat) (x1 : Int32) (x2 : Int32) (x3 : Int32) (x4 : Int32) (x5 : Int32) (q0 : Nat) (h : AH) : Run sc n_X10_execute 99 [aD p0, aI x1, aI x2, aI x3, aI x4, aI x5] none [aD q0] h = bF (getF sc h (aD p0) 12 18) (fun z => Run sc n_X10_execute 104 [aD p0, aI x1, aI x2, aI x3, aI x4, aI x5] none [z, aI x3, aD q0] h) := by
  refine (s_go mt_X10_execute dX10_execute_99 rfl).trans ?_
  refine (s_go mt_X10_execute dX10_execute_100 rfl).trans ?_
  exact q_getfield mt_X10_execute dX10_execute_101 rfl
theorem e_X10_execute_115 (sc : SC) (p0 : Nat) (x1 : Int32) (x2 : Int32) (x3 : Int32) (x4 : Int32) (x5 : Int32) (q0 : Nat) (h : AH) : Run sc n_X10_execute 115 [aD p0, aI x1, aI x2, aI x3, aI x4, aI x5] none [aD q0] h = bF (getF sc h (aD p0) 12 18) (fun z => Run sc n_X10_execute 120 [aD p0, aI x1, aI x2, aI x3, aI x4, aI x5] none [z, aI x3, aD q0] h) := by
  refine (s_go mt_X10_execute dX10_execute_115 rfl).trans ?_
  refine (s_go mt_X10_execute dX10_execute_116 rfl).trans ?_
  exact q_getfield mt_X10_execute dX10_execute_117 rfl
theorem e_X10_execute_139 (sc : SC) (p0 : Nat) (x1 : Int32) (x2 : Int32) (x3 : Int32) (x4 : Int32) (x5 : Int32) (q0 : Nat) (h : AH) : Run sc n_X10_execute 139 [aD p0, aI x1, aI x2, aI x3, aI x4, aI x5] none [aD q0] h = bF (getF sc h (aD p0) 12 18) (fun z => Run sc n_X10_execute 144 [aD p0, aI x1, aI x2, aI x3, aI x4, aI x5] none [z, aI x3, aD q0] h) := by
  refine (s_go mt_X10_execute dX10_execute_139 rfl).trans ?_
  refine (s_go mt_X10_execute dX10_execute_140 rfl).trans ?_
  exact q_getfield mt_X10_execute dX10_execute_141 rfl
theorem e_X10_execute_163 (sc : SC) (p0 : Nat) (x1 : Int32) (x2 : Int32) (x3 : Int32) (x4 : Int32) (x5 : Int32) (q0 : Nat) (h : AH) : Run sc n_X10_execute 163 [aD p0, aI x1, aI x2, aI x3, aI x4, aI x5] none [aD q0] h = bF (getF sc h (aD p0) 12 18) (fun z => Run sc n_X10_execute 168 [aD p0, aI x1, aI x2, aI x3, aI x4, aI x5] none [z, aI x3, aD q0] h) := by
  refine (s_go mt_X10_execute dX10_execute_163 rfl).trans ?_
  refine (s_go mt_X10_execute dX10_execute_164 rfl).trans ?_
  exact q_getfield mt_X10_execute dX10_execute_165 rfl
theorem e_X10_execute_193 (sc : SC) (p0 : Nat) (x1 : Int32) (x2 : Int32) (x3 : Int32) (x4 : Int32) (x5 : Int32) (q0 : Nat) (h : AH) : Run sc n_X10_execute 193 [aD p0, aI x1, aI x2, aI x3, aI x4, aI x5] none [aD q0] h = bF (getF sc h (aD p0) 12 18) (fun z => Run sc n_X10_execute 199 [aD p0, aI x1, aI x2, aI x3, aI x4, aI x5] none [z, aI (nI 8), aD q0] h) := by
  refine (s_go mt_X10_execute dX10_execute_193 rfl).trans ?_
  refine (s_go mt_X10_execute dX10_execute_195 rfl).trans ?_
  exact q_getfield mt_X10_execute dX10_execute_196 rfl
theorem e_X10_execute_223 (sc : SC) (p0 : Nat) (x1 : Int32) (x2 : Int32) (x3 : Int32) (x4 : Int32) (x5 : Int32) (q0 : Nat) (h : AH) : Run sc n_X10_execute 223 [aD p0, aI x1, aI x2, aI x3, aI x4, aI x5] none [aD q0] h = bF (getF sc h (aD p0) 12 20) (fun z => Run sc n_X10_execute 227 [aD p0, aI x1, aI x2, aI x3, aI x4, aI x5] none [z, aD q0] h) := by
  refine (s_go mt_X10_execute dX10_execute_223 rfl).trans ?_
  exact q_getfield mt_X10_execute dX10_execute_224 rfl
theorem e_X10_execute_15 (sc : SC) (p0 : Nat) (x1 : Int32) (x2 : Int32) (x3 : Int32) (v4 : AV) (v5 : AV) (y0 : Int32) (h : AH) : Run sc n_X10_execute 15 [aD p0, aI x1, aI x2, aI x3, v4, v5] none [aI y0] h = bI (rOK sc h (aD p0) 12 = true) (bC (Call sc n_X10_partOf [aD p0, aI x1, aI x2, aI (nI 3)] h) (fun v z => Run sc n_X10_execute 24 [aD p0, aI x1, aI x2, aI x3, aI y0, v5] none (v.toList ++ []) z) (fun E z => some (.inr E, z))) := by
  refine (s_go mt_X10_execute dX10_execute_15 rfl).trans ?_
  refine (s_go mt_X10_execute dX10_execute_17 rfl).trans ?_
  refine (s_go mt_X10_execute dX10_execute_18 rfl).trans ?_
  refine (s_go mt_X10_execute dX10_execute_19 rfl).trans ?_
  refine (s_go mt_X10_execute dX10_execute_20 rfl).trans ?_
  exact q_cV mt_X10_execute dX10_execute_21 rfl mt_X10_partOf rfl rfl rfl
theorem e_X10_execute_92 (sc : SC) (p0 : Nat) (x1 : Int32) (x2 : Int32) (x3 : Int32) (x4 : Int32) (x5 : Int32) (h : AH) : Run sc n_X10_execute 92 [aD p0, aI x1, aI x2, aI x3, aI x4, aI x5] none [] h = Run sc n_X10_execute 247 [aD p0, aI x1, aI x2, aI x3, aI x4, aI x5] none [] h := by
  refine (s_go mt_X10_execute dX10_execute_92 rfl).trans ?_
  exact rfl
theorem e_X10_execute_104 (sc : SC) (p0 : Nat) (x1 : Int32) (x2 : Int32) (x3 : Int32) (x4 : Int32) (x5 : Int32) (q0 : Nat) (y1 : Int32) (q2 : Nat) (h : AH) : Run sc n_X10_execute 104 [aD p0, aI x1, aI x2, aI x3, aI x4, aI x5] none [aD q2, aI y1, aD q0] h = bO (ldI sc h (fun t => t == 0) (aD q2) x4) (fun z => Run sc n_X10_execute 107 [aD p0, aI x1, aI x2, aI x3, aI x4, aI x5] none [aI z, aI y1, aD q0] h) := by
  refine (s_go mt_X10_execute dX10_execute_104 rfl).trans ?_
  exact q_iaload mt_X10_execute dX10_execute_106
theorem e_X10_execute_120 (sc : SC) (p0 : Nat) (x1 : Int32) (x2 : Int32) (x3 : Int32) (x4 : Int32) (x5 : Int32) (q0 : Nat) (y1 : Int32) (q2 : Nat) (h : AH) : Run sc n_X10_execute 120 [aD p0, aI x1, aI x2, aI x3, aI x4, aI x5] none [aD q2, aI y1, aD q0] h = bO (ldI sc h (fun t => t == 0) (aD q2) x4) (fun z => Run sc n_X10_execute 123 [aD p0, aI x1, aI x2, aI x3, aI x4, aI x5] none [aI z, aI y1, aD q0] h) := by
  refine (s_go mt_X10_execute dX10_execute_120 rfl).trans ?_
  exact q_iaload mt_X10_execute dX10_execute_122
theorem e_X10_execute_144 (sc : SC) (p0 : Nat) (x1 : Int32) (x2 : Int32) (x3 : Int32) (x4 : Int32) (x5 : Int32) (q0 : Nat) (y1 : Int32) (q2 : Nat) (h : AH) : Run sc n_X10_execute 144 [aD p0, aI x1, aI x2, aI x3, aI x4, aI x5] none [aD q2, aI y1, aD q0] h = bO (ldI sc h (fun t => t == 0) (aD q2) x4) (fun z => Run sc n_X10_execute 147 [aD p0, aI x1, aI x2, aI x3, aI x4, aI x5] none [aI z, aI y1, aD q0] h) := by
  refine (s_go mt_X10_execute dX10_execute_144 rfl).trans ?_
  exact q_iaload mt_X10_execute dX10_execute_146
theorem e_X10_execute_168 (sc : SC) (p0 : Nat) (x1 : Int32) (x2 : Int32) (x3 : Int32) (x4 : Int32) (x5 : Int32) (q0 : Nat) (y1 : Int32) (q2 : Nat) (h : AH) : Run sc n_X10_execute 168 [aD p0, aI x1, aI x2, aI x3, aI x4, aI x5] none [aD q2, aI y1, aD q0] h = bF (getF sc h (aD p0) 12 18) (fun z => Run sc n_X10_execute 174 [aD p0, aI x1, aI x2, aI x3, aI x4, aI x5] none [z, aI (nI 8), aD q2, aI y1, aD q0] h) := by
  refine (s_go mt_X10_execute dX10_execute_168 rfl).trans ?_
  refine (s_go mt_X10_execute dX10_execute_170 rfl).trans ?_
  exact q_getfield mt_X10_execute dX10_execute_171 rfl
theorem e_X10_execute_199 (sc : SC) (p0 : Nat) (x1 : Int32) (x2 : Int32) (x3 : Int32) (x4 : Int32) (x5 : Int32) (q0 : Nat) (y1 : Int32) (q2 : Nat) (h : AH) : Run sc n_X10_execute 199 [aD p0, aI x1, aI x2, aI x3, aI x4, aI x5] none [aD q2, aI y1, aD q0] h = bO (ldI sc h (fun t => t == 0) (aD q2) x4) (fun z => Run sc n_X10_execute 202 [aD p0, aI x1, aI x2, aI x3, aI x4, aI x5] none [aI z, aI y1, aD q0] h) := by
  refine (s_go mt_X10_execute dX10_execute_199 rfl).trans ?_
  exact q_iaload mt_X10_execute dX10_execute_201
theorem e_X10_execute_227 (sc : SC) (p0 : Nat) (x1 : Int32) (x2 : Int32) (x3 : Int32) (x4 : Int32) (x5 : Int32) (q0 : Nat) (y1 : Int32) (h : AH) : Run sc n_X10_execute 227 [aD p0, aI x1, aI x2, aI x3, aI x4, aI x5] none [aI y1, aD q0] h = bF (getF sc h (aD p0) 12 18) (fun z => Run sc n_X10_execute 231 [aD p0, aI x1, aI x2, aI x3, aI x4, aI x5] none [z, aI y1, aD q0] h) := by
  refine (s_go mt_X10_execute dX10_execute_227 rfl).trans ?_
  exact q_getfield mt_X10_execute dX10_execute_228 rfl
theorem e_X10_execute_24 (sc : SC) (p0 : Nat) (x1 : Int32) (x2 : Int32) (x3 : Int32) (x4 : Int32) (v5 : AV) (y0 : Int32) (h : AH) : Run sc n_X10_execute 24 [aD p0, aI x1, aI x2, aI x3, aI x4, v5] none [aI y0] h = bF (getF sc h (aD p0) 12 21) (fun z => Run sc n_X10_execute 31 [aD p0, aI x1, aI x2, aI x3, aI x4, aI y0] none [z, aD p0] h) := by
  refine (s_go mt_X10_execute dX10_execute_24 rfl).trans ?_
  refine (s_go mt_X10_execute dX10_execute_26 rfl).trans ?_
  refine (s_go mt_X10_execute dX10_execute_27 rfl).trans ?_
  exact q_getfield mt_X10_execute dX10_execute_28 rfl
theorem e_X10_execute_107 (sc : SC) (p0 : Nat) (x1 : Int32) (x2 : Int32) (x3 : Int32) (x4 : Int32) (x5 : Int32) (q0 : Nat) (y1 : Int32) (y2 : Int32) (h : AH) : Run sc n_X10_execute 107 [aD p0, aI x1, aI x2, aI x3, aI x4, aI x5] none [aI y2, aI y1, aD q0] h = bO (stI h (fun t => t == 0) q0 y1 y2) (fun z => Run sc n_X10_execute 108 [aD p0, aI x1, aI x2, aI x3, aI x4, aI x5] none [] z) := by
  exact q_iastore mt_X10_execute dX10_execute_107
theorem e_X10_execute_123 (sc : SC) (p0 : Nat) (x1 : Int32) (x2 : Int32) (x3 : Int32) (x4 : Int32) (x5 : Int32) (q0 : Nat) (y1 : Int32) (y2 : Int32) (h : AH) : Run sc n_X10_execute 123 [aD p0, aI x1, aI x2, aI x3, aI x4, aI x5] none [aI y2, aI y1, aD q0] h = bF (getF sc h (aD p0) 12 18) (fun z => Run sc n_X10_execute 127 [aD p0, aI x1, aI x2, aI x3, aI x4, aI x5] none [z, aI y2, aI y1, aD q0] h) := by
  refine (s_go mt_X10_execute dX10_execute_123 rfl).trans ?_
  exact q_getfield mt_X10_execute dX10_execute_124 rfl
theorem e_X10_execute_147 (sc : SC) (p0 : Nat) (x1 : Int32) (x2 : Int32) (x3 : Int32) (x4 : Int32) (x5 : Int32) (q0 : Nat) (y1 : Int32) (y2 : Int32) (h : AH) : Run sc n_X10_execute 147 [aD p0, aI x1, aI x2, aI x3, aI x4, aI x5] none [aI y2, aI y1, aD q0] h = bF (getF sc h (aD p0) 12 18) (fun z => Run sc n_X10_execute 151 [aD p0, aI x1, aI x2, aI x3, aI x4, aI x5] none [z, aI y2, aI y1, aD q0] h) := by
  refine (s_go mt_X10_execute dX10_execute_147 rfl).trans ?_
  exact q_getfield mt_X10_execute dX10_execute_148 rfl
theorem e_X10_execute_174 (sc : SC) (p0 : Nat) (x1 : Int32) (x2 : Int32) (x3 : Int32) (x4 : Int32) (x5 : Int32) (q0 : Nat) (y1 : Int32) (q2 : Nat) (y3 : Int32) (q4 : Nat) (h : AH) : Run sc n_X10_execute 174 [aD p0, aI x1, aI x2, aI x3, aI x4, aI x5] none [aD q4, aI y3, aD q2, aI y1, aD q0] h = bO (ldI sc h (fun t => t == 0) (aD q4) x4) (fun z => Run sc n_X10_execute 177 [aD p0, aI x1, aI x2, aI x3, aI x4, aI x5] none [aI z, aI y3, aD q2, aI y1, aD q0] h) := by
  refine (s_go mt_X10_execute dX10_execute_174 rfl).trans ?_
  exact q_iaload mt_X10_execute dX10_execute_176
theorem e_X10_execute_202 (sc : SC) (p0 : Nat) (x1 : Int32) (x2 : Int32) (x3 : Int32) (x4 : Int32) (x5 : Int32) (q0 : Nat) (y1 : Int32) (y2 : Int32) (h : AH) : Run sc n_X10_execute 202 [aD p0, aI x1, aI x2, aI x3, aI x4, aI x5] none [aI y2, aI y1, aD q0] h = bF (getF sc h (aD p0) 12 18) (fun z => Run sc n_X10_execute 213 [aD p0, aI x1, aI x2, aI x3, aI x4, aI x5] none [z, aI (y1 + ((y2 + x5) &&& (nI 15))), aD q0] h) := by
  refine (s_go mt_X10_execute dX10_execute_202 rfl).trans ?_
  refine (s_go mt_X10_execute dX10_execute_204 rfl).trans ?_
  refine (s_go mt_X10_execute dX10_execute_205 rfl).trans ?_
  refine (s_go mt_X10_execute dX10_execute_207 rfl).trans ?_
  refine (s_go mt_X10_execute dX10_execute_208 rfl).trans ?_
  refine (s_go mt_X10_execute dX10_execute_209 rfl).trans ?_
  exact q_getfield mt_X10_execute dX10_execute_210 rfl
theorem e_X10_execute_231 (sc : SC) (p0 : Nat) (x1 : Int32) (x2 : Int32) (x3 : Int32) (x4 : Int32) (x5 : Int32) (q0 : Nat) (y1 : Int32) (q2 : Nat) (h : AH) : Run sc n_X10_execute 231 [aD p0, aI x1, aI x2, aI x3, aI x4, aI x5] none [aD q2, aI y1, aD q0] h = bO (ldI sc h (fun t => t == 0) (aD q2) x3) (fun z => Run sc n_X10_execute 233 [aD p0, aI x1, aI x2, aI x3, aI x4, aI x5] none [aI z, aI y1, aD q0] h) := by
  refine (s_go mt_X10_execute dX10_execute_231 rfl).trans ?_
  exact q_iaload mt_X10_execute dX10_execute_232
theorem e_X10_execute_31 (sc : SC) (p0 : Nat) (x1 : Int32) (x2 : Int32) (x3 : Int32) (x4 : Int32) (x5 : Int32) (q0 : Nat) (y1 : Int32) (h : AH) : Run sc n_X10_execute 31 [aD p0, aI x1, aI x2, aI x3, aI x4, aI x5] none [aI y1, aD q0] h = bO (putF h q0 12 21 0 (aI (y1 + (nI 1)))) (fun z => Run sc n_X10_execute 36 [aD p0, aI x1, aI x2, aI x3, aI x4, aI x5] none [] z) := by
  refine (s_go mt_X10_execute dX10_execute_31 rfl).trans ?_
  refine (s_go mt_X10_execute dX10_execute_32 rfl).trans ?_
  exact q_putfield mt_X10_execute dX10_execute_33 rfl rfl rfl rfl
theorem e_X10_execute_108 (sc : SC) (p0 : Nat) (x1 : Int32) (x2 : Int32) (x3 : Int32) (x4 : Int32) (x5 : Int32) (h : AH) : Run sc n_X10_execute 108 [aD p0, aI x1, aI x2, aI x3, aI x4, aI x5] none [] h = Run sc n_X10_execute 247 [aD p0, aI x1, aI x2, aI x3, aI x4, aI x5] none [] h := by
  refine (s_go mt_X10_execute dX10_execute_108 rfl).trans ?_
  exact rfl
theorem e_X10_execute_127 (sc : SC) (p0 : Nat) (x1 : Int32) (x2 : Int32) (x3 : Int32) (x4 : Int32) (x5 : Int32) (q0 : Nat) (y1 : Int32) (y2 : Int32) (q3 : Nat) (h : AH) : Run sc n_X10_execute 127 [aD p0, aI x1, aI x2, aI x3, aI x4, aI x5] none [aD q3, aI y2, aI y1, aD q0] h = bO (ldI sc h (fun t => t == 0) (aD q3) x5) (fun z => Run sc n_X10_execute 130 [aD p0, aI x1, aI x2, aI x3, aI x4, aI x5] none [aI z, aI y2, aI y1, aD q0] h) := by
  refine (s_go mt_X10_execute dX10_execute_127 rfl).trans ?_
  exact q_iaload mt_X10_execute dX10_execute_129
theorem e_X10_execute_151 (sc : SC) (p0 : Nat) (x1 : Int32) (x2 : Int32) (x3 : Int32) (x4 : Int32) (x5 : Int32) (q0 : Nat) (y1 : Int32) (y2 : Int32) (q3 : Nat) (h : AH) : Run sc n_X10_execute 151 [aD p0, aI x1, aI x2, aI x3, aI x4, aI x5] none [aD q3, aI y2, aI y1, aD q0] h = bO (ldI sc h (fun t => t == 0) (aD q3) x5) (fun z => Run sc n_X10_execute 154 [aD p0, aI x1, aI x2, aI x3, aI x4, aI x5] none [aI z, aI y2, aI y1, aD q0] h) := by
  refine (s_go mt_X10_execute dX10_execute_151 rfl).trans ?_
  exact q_iaload mt_X10_execute dX10_execute_153
theorem e_X10_execute_177 (sc : SC) (p0 : Nat) (x1 : Int32) (x2 : Int32) (x3 : Int32) (x4 : Int32) (x5 : Int32) (q0 : Nat) (y1 : Int32) (q2 : Nat) (y3 : Int32) (y4 : Int32) (h : AH) : Run sc n_X10_execute 177 [aD p0, aI x1, aI x2, aI x3, aI x4, aI x5] none [aI y4, aI y3, aD q2, aI y1, aD q0] h = bO (ldI sc h (fun t => t == 0) (aD q2) (y3 + ((y4 + x5) &&& (nI 15)))) (fun z => Run sc n_X10_execute 185 [aD p0, aI x1, aI x2, aI x3, aI x4, aI x5] none [aI z, aI y1, aD q0] h) := by
  refine (s_go mt_X10_execute dX10_execute_177 rfl).trans ?_
  refine (s_go mt_X10_execute dX10_execute_179 rfl).trans ?_
  refine (s_go mt_X10_execute dX10_execute_180 rfl).trans ?_
  refine (s_go mt_X10_execute dX10_execute_182 rfl).trans ?_
  refine (s_go mt_X10_execute dX10_execute_183 rfl).trans ?_
  exact q_iaload mt_X10_execute dX10_execute_184
theorem e_X10_execute_213 (sc : SC) (p0 : Nat) (x1 : Int32) (x2 : Int32) (x3 : Int32) (x4 : Int32) (x5 : Int32) (q0 : Nat) (y1 : Int32) (q2 : Nat) (h : AH) : Run sc n_X10_execute 213 [aD p0, aI x1, aI x2, aI x3, aI x4, aI x5] none [aD q2, aI y1, aD q0] h = bO (ldI sc h (fun t => t == 0) (aD q2) x3) (fun z => Run sc n_X10_execute 215 [aD p0, aI x1, aI x2, aI x3, aI x4, aI x5] none [aI z, aI y1, aD q0] h) := by
  refine (s_go mt_X10_execute dX10_execute_213 rfl).trans ?_
  exact q_iaload mt_X10_execute dX10_execute_214
theorem e_X10_execute_233 (sc : SC) (p0 : Nat) (x1 : Int32) (x2 : Int32) (x3 : Int32) (x4 : Int32) (x5 : Int32) (q0 : Nat) (y1 : Int32) (y2 : Int32) (h : AH) : Run sc n_X10_execute 233 [aD p0, aI x1, aI x2, aI x3, aI x4, aI x5] none [aI y2, aI y1, aD q0] h = bO (stI h (fun t => t == 0) q0 y1 y2) (fun z => Run sc n_X10_execute 234 [aD p0, aI x1, aI x2, aI x3, aI x4, aI x5] none [] z) := by
  exact q_iastore mt_X10_execute dX10_execute_233
theorem e_X10_execute_36 (sc : SC) (p0 : Nat) (x1 : Int32) (x2 : Int32) (x3 : Int32) (x4 : Int32) (x5 : Int32) (h : AH) : Run sc n_X10_execute 36 [aD p0, aI x1, aI x2, aI x3, aI x4, aI x5] none [] h = bI (rOK sc h (aD p0) 12 = true) (bC (Call sc n_X10_partOf [aD p0, aI x1, aI x2, aI (nI 0)] h) (fun v z => Run sc n_X10_execute 43 [aD p0, aI x1, aI x2, aI x3, aI x4, aI x5] none (v.toList ++ []) z) (fun E z => some (.inr E, z))) := by
  refine (s_go mt_X10_execute dX10_execute_36 rfl).trans ?_
  refine (s_go mt_X10_execute dX10_execute_37 rfl).trans ?_
  refine (s_go mt_X10_execute dX10_execute_38 rfl).trans ?_
  refine (s_go mt_X10_execute dX10_execute_39 rfl).trans ?_
  exact q_cV mt_X10_execute dX10_execute_40 rfl mt_X10_partOf rfl rfl rfl
theorem e_X10_execute_130 (sc : SC) (p0 : Nat) (x1 : Int32) (x2 : Int32) (x3 : Int32) (x4 : Int32) (x5 : Int32) (q0 : Nat) (y1 : Int32) (y2 : Int32) (y3 : Int32) (h : AH) : Run sc n_X10_execute 130 [aD p0, aI x1, aI x2, aI x3, aI x4, aI x5] none [aI y3, aI y2, aI y1, aD q0] h = bO (stI h (fun t => t == 0) q0 y1 (y2 + y3)) (fun z => Run sc n_X10_execute 132 [aD p0, aI x1, aI x2, aI x3, aI x4, aI x5] none [] z) := by
  refine (s_go mt_X10_execute dX10_execute_130 rfl).trans ?_
  exact q_iastore mt_X10_execute dX10_execute_131
theorem e_X10_execute_154 (sc : SC) (p0 : Nat) (x1 : Int32) (x2 : Int32) (x3 : Int32) (x4 : Int32) (x5 : Int32) (q0 : Nat) (y1 : Int32) (y2 : Int32) (y3 : Int32) (h : AH) : Run sc n_X10_execute 154 [aD p0, aI x1, aI x2, aI x3, aI x4, aI x5] none [aI y3, aI y2, aI y1, aD q0] h = bO (stI h (fun t => t == 0) q0 y1 (y2 - y3)) (fun z => Run sc n_X10_execute 156 [aD p0, aI x1, aI x2, aI x3, aI x4, aI x5] none [] z) := by
  refine (s_go mt_X10_execute dX10_execute_154 rfl).trans ?_
  exact q_iastore mt_X10_execute dX10_execute_155
theorem e_X10_execute_185 (sc : SC) (p0 : Nat) (x1 : Int32) (x2 : Int32) (x3 : Int32) (x4 : Int32) (x5 : Int32) (q0 : Nat) (y1 : Int32) (y2 : Int32) (h : AH) : Run sc n_X10_execute 185 [aD p0, aI x1, aI x2, aI x3, aI x4, aI x5] none [aI y2, aI y1, aD q0] h = bO (stI h (fun t => t == 0) q0 y1 y2) (fun z => Run sc n_X10_execute 186 [aD p0, aI x1, aI x2, aI x3, aI x4, aI x5] none [] z) := by
  exact q_iastore mt_X10_execute dX10_execute_185
theorem e_X10_execute_215 (sc : SC) (p0 : Nat) (x1 : Int32) (x2 : Int32) (x3 : Int32) (x4 : Int32) (x5 : Int32) (q0 : Nat) (y1 : Int32) (y2 : Int32) (h : AH) : Run sc n_X10_execute 215 [aD p0, aI x1, aI x2, aI x3, aI x4, aI x5] none [aI y2, aI y1, aD q0] h = bO (stI h (fun t => t == 0) q0 y1 y2) (fun z => Run sc n_X10_execute 216 [aD p0, aI x1, aI x2, aI x3, aI x4, aI x5] none [] z) := by
  exact q_iastore mt_X10_execute dX10_execute_215
theorem e_X10_execute_234 (sc : SC) (p0 : Nat) (x1 : Int32) (x2 : Int32) (x3 : Int32) (x4 : Int32) (x5 : Int32) (h : AH) : Run sc n_X10_execute 234 [aD p0, aI x1, aI x2, aI x3, aI x4, aI x5] none [] h = bF (getF sc h (aD p0) 12 20) (fun z => Run sc n_X10_execute 239 [aD p0, aI x1, aI x2, aI x3, aI x4, aI x5] none [z, aD p0] h) := by
  refine (s_go mt_X10_execute dX10_execute_234 rfl).trans ?_
  refine (s_go mt_X10_execute dX10_execute_235 rfl).trans ?_
  exact q_getfield mt_X10_execute dX10_execute_236 rfl
theorem e_X10_execute_43 (sc : SC) (p0 : Nat) (x1 : Int32) (x2 : Int32) (x3 : Int32) (x4 : Int32) (x5 : Int32) (y0 : Int32) (h : AH) : Run sc n_X10_execute 43 [aD p0, aI x1, aI x2, aI x3, aI x4, aI x5] none [aI y0] h = Run sc n_X10_execute (if (y0).toInt < 1 ∨ 7 < (y0).toInt then 247 else ([84, 95, 111, 135, 159, 189, 219] : List Nat).getD ((y0).toInt - 1).toNat 0) [aD p0, aI x1, aI x2, aI x3, aI x4, aI x5] none [] h := by
  exact q_table (pc := 43) (T := [84, 95, 111, 135, 159, 189, 219]) mt_X10_execute dX10_execute_43 rfl (by decide +kernel)
theorem e_X10_execute_132 (sc : SC) (p0 : Nat) (x1 : Int32) (x2 : Int32) (x3 : Int32) (x4 : Int32) (x5 : Int32) (h : AH) : Run sc n_X10_execute 132 [aD p0, aI x1, aI x2, aI x3, aI x4, aI x5] none [] h = Run sc n_X10_execute 247 [aD p0, aI x1, aI x2, aI x3, aI x4, aI x5] none [] h := by
  refine (s_go mt_X10_execute dX10_execute_132 rfl).trans ?_
  exact rfl
theorem e_X10_execute_156 (sc : SC) (p0 : Nat) (x1 : Int32) (x2 : Int32) (x3 : Int32) (x4 : Int32) (x5 : Int32) (h : AH) : Run sc n_X10_execute 156 [aD p0, aI x1, aI x2, aI x3, aI x4, aI x5] none [] h = Run sc n_X10_execute 247 [aD p0, aI x1, aI x2, aI x3, aI x4, aI x5] none [] h := by
  refine (s_go mt_X10_execute dX10_execute_156 rfl).trans ?_
  exact rfl
theorem e_X10_execute_186 (sc : SC) (p0 : Nat) (x1 : Int32) (x2 : Int32) (x3 : Int32) (x4 : Int32) (x5 : Int32) (h : AH) : Run sc n_X10_execute 186 [aD p0, aI x1, aI x2, aI x3, aI x4, aI x5] none [] h = Run sc n_X10_execute 247 [aD p0, aI x1, aI x2, aI x3, aI x4, aI x5] none [] h := by
  refine (s_go mt_X10_execute dX10_execute_186 rfl).trans ?_
  exact rfl
theorem e_X10_execute_216 (sc : SC) (p0 : Nat) (x1 : Int32) (x2 : Int32) (x3 : Int32) (x4 : Int32) (x5 : Int32) (h : AH) : Run sc n_X10_execute 216 [aD p0, aI x1, aI x2, aI x3, aI x4, aI x5] none [] h = Run sc n_X10_execute 247 [aD p0, aI x1, aI x2, aI x3, aI x4, aI x5] none [] h := by
  refine (s_go mt_X10_execute dX10_execute_216 rfl).trans ?_
  exact rfl
theorem e_X10_execute_239 (sc : SC) (p0 : Nat) (x1 : Int32) (x2 : Int32) (x3 : Int32) (x4 : Int32) (x5 : Int32) (q0 : Nat) (y1 : Int32) (h : AH) : Run sc n_X10_execute 239 [aD p0, aI x1, aI x2, aI x3, aI x4, aI x5] none [aI y1, aD q0] h = bO (putF h q0 12 20 0 (aI (y1 + (nI 1)))) (fun z => Run sc n_X10_execute 244 [aD p0, aI x1, aI x2, aI x3, aI x4, aI x5] none [] z) := by
  refine (s_go mt_X10_execute dX10_execute_239 rfl).trans ?_
  refine (s_go mt_X10_execute dX10_execute_240 rfl).trans ?_
  exact q_putfield mt_X10_execute dX10_execute_241 rfl rfl rfl rfl
theorem e_X10_execute_244 (sc : SC) (p0 : Nat) (x1 : Int32) (x2 : Int32) (x3 : Int32) (x4 : Int32) (x5 : Int32) (h : AH) : Run sc n_X10_execute 244 [aD p0, aI x1, aI x2, aI x3, aI x4, aI x5] none [] h = Run sc n_X10_execute 247 [aD p0, aI x1, aI x2, aI x3, aI x4, aI x5] none [] h := by
  refine (s_go mt_X10_execute dX10_execute_244 rfl).trans ?_
  exact rfl
/-! BranchSlotFillerModel.isTaken(ZI)Z -/
theorem e_X10_isTaken_0 (sc : SC) (p0 : Nat) (x1 : Int32) (x2 : Int32) (v3 : AV) (v4 : AV) (v5 : AV) (h : AH) : Run sc n_X10_isTaken 0 [aD p0, aI x1, aI x2, v3, v4, v5] none [] h = bI (rOK sc h (aD p0) 12 = true) (bC (Call sc n_X10_partOf [aD p0, aI x1, aI x2, aI (nI 0)] h) (fun v z => Run sc n_X10_isTaken 7 [aD p0, aI x1, aI x2, v3, v4, v5] none (v.toList ++ []) z) (fun E z => some (.inr E, z))) := by
  refine (s_go mt_X10_isTaken dX10_isTaken_0 rfl).trans ?_
  refine (s_go mt_X10_isTaken dX10_isTaken_1 rfl).trans ?_
  refine (s_go mt_X10_isTaken dX10_isTaken_2 rfl).trans ?_
  refine (s_go mt_X10_isTaken dX10_isTaken_3 rfl).trans ?_
  exact q_cV mt_X10_isTaken dX10_isTaken_4 rfl mt_X10_partOf rfl rfl rfl
theorem e_X10_isTaken_42 (sc : SC) (p0 : Nat) (x1 : Int32) (x2 : Int32) (x3 : Int32) (x4 : Int32) (x5 : Int32) (h : AH) : Run sc n_X10_isTaken 42 [aD p0, aI x1, aI x2, aI x3, aI x4, aI x5] none [] h = Run sc n_X10_isTaken (if ¬ x3 = (nI 8) then 58 else 48) [aD p0, aI x1, aI x2, aI x3, aI x4, aI x5] none [] h := by
  refine (s_go mt_X10_isTaken dX10_isTaken_42 rfl).trans ?_
  refine (s_go mt_X10_isTaken dX10_isTaken_43 rfl).trans ?_
  exact q_icmp mt_X10_isTaken dX10_isTaken_45 (fun _ _ _ _ => rfl) rfl
theorem e_X10_isTaken_48 (sc : SC) (p0 : Nat) (x1 : Int32) (x2 : Int32) (x3 : Int32) (x4 : Int32) (x5 : Int32) (h : AH) : Run sc n_X10_isTaken 48 [aD p0, aI x1, aI x2, aI x3, aI x4, aI x5] none [] h = Run sc n_X10_isTaken (if ¬ x4 = x5 then 69 else 55) [aD p0, aI x1, aI x2, aI x3, aI x4, aI x5] none [] h := by
  refine (s_go mt_X10_isTaken dX10_isTaken_48 rfl).trans ?_
  refine (s_go mt_X10_isTaken dX10_isTaken_50 rfl).trans ?_
  exact q_icmp mt_X10_isTaken dX10_isTaken_52 (fun _ _ _ _ => rfl) rfl
theorem e_X10_isTaken_55 (sc : SC) (p0 : Nat) (x1 : Int32) (x2 : Int32) (x3 : Int32) (x4 : Int32) (x5 : Int32) (h : AH) : Run sc n_X10_isTaken 55 [aD p0, aI x1, aI x2, aI x3, aI x4, aI x5] none [] h = Run sc n_X10_isTaken 65 [aD p0, aI x1, aI x2, aI x3, aI x4, aI x5] none [] h := by
  refine (s_go mt_X10_isTaken dX10_isTaken_55 rfl).trans ?_
  exact rfl
theorem e_X10_isTaken_58 (sc : SC) (p0 : Nat) (x1 : Int32) (x2 : Int32) (x3 : Int32) (x4 : Int32) (x5 : Int32) (h : AH) : Run sc n_X10_isTaken 58 [aD p0, aI x1, aI x2, aI x3, aI x4, aI x5] none [] h = Run sc n_X10_isTaken (if x5 ≤ x4 then 69 else 65) [aD p0, aI x1, aI x2, aI x3, aI x4, aI x5] none [] h := by
  refine (s_go mt_X10_isTaken dX10_isTaken_58 rfl).trans ?_
  refine (s_go mt_X10_isTaken dX10_isTaken_60 rfl).trans ?_
  exact q_icmp mt_X10_isTaken dX10_isTaken_62 (fun _ _ _ _ => rfl) rfl
theorem e_X10_isTaken_65 (sc : SC) (p0 : Nat) (x1 : Int32) (x2 : Int32) (x3 : Int32) (x4 : Int32) (x5 : Int32) (h : AH) : Run sc n_X10_isTaken 65 [aD p0, aI x1, aI x2, aI x3, aI x4, aI x5] none [] h = Run sc n_X10_isTaken 70 [aD p0, aI x1, aI x2, aI x3, aI x4, aI x5] none [aI (nI 1)] h := by
  refine (s_go mt_X10_isTaken dX10_isTaken_65 rfl).trans ?_
  refine (s_go mt_X10_isTaken dX10_isTaken_66 rfl).trans ?_
  exact rfl
theorem e_X10_isTaken_69 (sc : SC) (p0 : Nat) (x1 : Int32) (x2 : Int32) (x3 : Int32) (x4 : Int32) (x5 : Int32) (h : AH) : Run sc n_X10_isTaken 69 [aD p0, aI x1, aI x2, aI x3, aI x4, aI x5] none [] h = Run sc n_X10_isTaken 70 [aD p0, aI x1, aI x2, aI x3, aI x4, aI x5] none [aI (nI 0)] h := by
  refine (s_go mt_X10_isTaken dX10_isTaken_69 rfl).trans ?_
  exact rfl
theorem e_X10_isTaken_70 (sc : SC) (p0 : Nat) (x1 : Int32) (x2 : Int32) (x3 : Int32) (x4 : Int32) (x5 : Int32) (y0 : Int32) (h : AH) : Run sc n_X10_isTaken 70 [aD p0, aI x1, aI x2, aI x3, aI x4, aI x5] none [aI y0] h = bI (retK (some FieldType.boolean) y0 = true) (some (.inl (some (aI y0)), h)) := by
  exact q_iret mt_X10_isTaken dX10_isTaken_70
theorem e_X10_isTaken_7 (sc : SC) (p0 : Nat) (x1 : Int32) (x2 : Int32) (v3 : AV) (v4 : AV) (v5 : AV) (y0 : Int32) (h : AH) : Run sc n_X10_isTaken 7 [aD p0, aI x1, aI x2, v3, v4, v5] none [aI y0] h = bF (getF sc h (aD p0) 12 18) (fun z => Run sc n_X10_isTaken 12 [aD p0, aI x1, aI x2, aI y0, v4, v5] none [z] h) := by
  refine (s_go mt_X10_isTaken dX10_isTaken_7 rfl).trans ?_
  refine (s_go mt_X10_isTaken dX10_isTaken_8 rfl).trans ?_
  exact q_getfield mt_X10_isTaken dX10_isTaken_9 rfl
theorem e_X10_isTaken_12 (sc : SC) (p0 : Nat) (x1 : Int32) (x2 : Int32) (x3 : Int32) (v4 : AV) (v5 : AV) (q0 : Nat) (h : AH) : Run sc n_X10_isTaken 12 [aD p0, aI x1, aI x2, aI x3, v4, v5] none [aD q0] h = bI (rOK sc h (aD p0) 12 = true) (bC (Call sc n_X10_partOf [aD p0, aI x1, aI x2, aI (nI 1)] h) (fun v z => Run sc n_X10_isTaken 19 [aD p0, aI x1, aI x2, aI x3, v4, v5] none (v.toList ++ [aD q0]) z) (fun E z => some (.inr E, z))) := by
  refine (s_go mt_X10_isTaken dX10_isTaken_12 rfl).trans ?_
  refine (s_go mt_X10_isTaken dX10_isTaken_13 rfl).trans ?_
  refine (s_go mt_X10_isTaken dX10_isTaken_14 rfl).trans ?_
  refine (s_go mt_X10_isTaken dX10_isTaken_15 rfl).trans ?_
  exact q_cV mt_X10_isTaken dX10_isTaken_16 rfl mt_X10_partOf rfl rfl rfl
theorem e_X10_isTaken_19 (sc : SC) (p0 : Nat) (x1 : Int32) (x2 : Int32) (x3 : Int32) (v4 : AV) (v5 : AV) (q0 : Nat) (y1 : Int32) (h : AH) : Run sc n_X10_isTaken 19 [aD p0, aI x1, aI x2, aI x3, v4, v5] none [aI y1, aD q0] h = bO (ldI sc h (fun t => t == 0) (aD q0) y1) (fun z => Run sc n_X10_isTaken 20 [aD p0, aI x1, aI x2, aI x3, v4, v5] none [aI z] h) := by
  exact q_iaload mt_X10_isTaken dX10_isTaken_19
theorem e_X10_isTaken_20 (sc : SC) (p0 : Nat) (x1 : Int32) (x2 : Int32) (x3 : Int32) (v4 : AV) (v5 : AV) (y0 : Int32) (h : AH) : Run sc n_X10_isTaken 20 [aD p0, aI x1, aI x2, aI x3, v4, v5] none [aI y0] h = bF (getF sc h (aD p0) 12 18) (fun z => Run sc n_X10_isTaken 26 [aD p0, aI x1, aI x2, aI x3, aI y0, v5] none [z] h) := by
  refine (s_go mt_X10_isTaken dX10_isTaken_20 rfl).trans ?_
  refine (s_go mt_X10_isTaken dX10_isTaken_22 rfl).trans ?_
  exact q_getfield mt_X10_isTaken dX10_isTaken_23 rfl
theorem e_X10_isTaken_26 (sc : SC) (p0 : Nat) (x1 : Int32) (x2 : Int32) (x3 : Int32) (x4 : Int32) (v5 : AV) (q0 : Nat) (h : AH) : Run sc n_X10_isTaken 26 [aD p0, aI x1, aI x2, aI x3, aI x4, v5] none [aD q0] h = bI (rOK sc h (aD p0) 12 = true) (bC (Call sc n_X10_partOf [aD p0, aI x1, aI x2, aI (nI 2)] h) (fun v z => Run sc n_X10_isTaken 33 [aD p0, aI x1, aI x2, aI x3, aI x4, v5] none (v.toList ++ [aD q0]) z) (fun E z => some (.inr E, z))) := by
  refine (s_go mt_X10_isTaken dX10_isTaken_26 rfl).trans ?_
  refine (s_go mt_X10_isTaken dX10_isTaken_27 rfl).trans ?_
  refine (s_go mt_X10_isTaken dX10_isTaken_28 rfl).trans ?_
  refine (s_go mt_X10_isTaken dX10_isTaken_29 rfl).trans ?_
  exact q_cV mt_X10_isTaken dX10_isTaken_30 rfl mt_X10_partOf rfl rfl rfl
theorem e_X10_isTaken_33 (sc : SC) (p0 : Nat) (x1 : Int32) (x2 : Int32) (x3 : Int32) (x4 : Int32) (v5 : AV) (q0 : Nat) (y1 : Int32) (h : AH) : Run sc n_X10_isTaken 33 [aD p0, aI x1, aI x2, aI x3, aI x4, v5] none [aI y1, aD q0] h = bO (ldI sc h (fun t => t == 0) (aD q0) y1) (fun z => Run sc n_X10_isTaken 34 [aD p0, aI x1, aI x2, aI x3, aI x4, v5] none [aI z] h) := by
  exact q_iaload mt_X10_isTaken dX10_isTaken_33
theorem e_X10_isTaken_34 (sc : SC) (p0 : Nat) (x1 : Int32) (x2 : Int32) (x3 : Int32) (x4 : Int32) (v5 : AV) (y0 : Int32) (h : AH) : Run sc n_X10_isTaken 34 [aD p0, aI x1, aI x2, aI x3, aI x4, v5] none [aI y0] h = Run sc n_X10_isTaken (if x3 = (nI 10) then 65 else 42) [aD p0, aI x1, aI x2, aI x3, aI x4, aI y0] none [] h := by
  refine (s_go mt_X10_isTaken dX10_isTaken_34 rfl).trans ?_
  refine (s_go mt_X10_isTaken dX10_isTaken_36 rfl).trans ?_
  refine (s_go mt_X10_isTaken dX10_isTaken_37 rfl).trans ?_
  exact q_icmp mt_X10_isTaken dX10_isTaken_39 (fun _ _ _ _ => rfl) rfl
/-! BranchSlotFillerModel.runs(ZI)Z -/
theorem e_X10_runs_0 (sc : SC) (p0 : Nat) (x1 : Int32) (x2 : Int32) (v3 : AV) (v4 : AV) (v5 : AV) (v6 : AV) (h : AH) : Run sc n_X10_runs 0 [aD p0, aI x1, aI x2, v3, v4, v5, v6] none [] h = Run sc n_X10_runs (if x1 = 0 then 11 else 4) [aD p0, aI x1, aI x2, v3, v4, v5, v6] none [] h := by
  refine (s_go mt_X10_runs dX10_runs_0 rfl).trans ?_
  exact q_if mt_X10_runs dX10_runs_1 (fun _ _ _ _ => rfl) rfl
theorem e_X10_runs_4 (sc : SC) (p0 : Nat) (x1 : Int32) (x2 : Int32) (v3 : AV) (v4 : AV) (v5 : AV) (v6 : AV) (h : AH) : Run sc n_X10_runs 4 [aD p0, aI x1, aI x2, v3, v4, v5, v6] none [] h = bI (rOK sc h (aD p0) 12 = true) (bC (Call sc n_X10_entryMany [aD p0] h) (fun v z => Run sc n_X10_runs 8 [aD p0, aI x1, aI x2, v3, v4, v5, v6] none (v.toList ++ []) z) (fun E z => some (.inr E, z))) := by
  refine (s_go mt_X10_runs dX10_runs_4 rfl).trans ?_
  exact q_cV mt_X10_runs dX10_runs_5 rfl mt_X10_entryMany rfl rfl rfl
theorem e_X10_runs_11 (sc : SC) (p0 : Nat) (x1 : Int32) (x2 : Int32) (v3 : AV) (v4 : AV) (v5 : AV) (v6 : AV) (h : AH) : Run sc n_X10_runs 11 [aD p0, aI x1, aI x2, v3, v4, v5, v6] none [] h = bF (getF sc h (aD p0) 12 2) (fun z => Run sc n_X10_runs 15 [aD p0, aI x1, aI x2, v3, v4, v5, v6] none [z] h) := by
  refine (s_go mt_X10_runs dX10_runs_11 rfl).trans ?_
  exact q_getfield mt_X10_runs dX10_runs_12 rfl
theorem e_X10_runs_15 (sc : SC) (p0 : Nat) (x1 : Int32) (x2 : Int32) (v3 : AV) (v4 : AV) (v5 : AV) (v6 : AV) (y0 : Int32) (h : AH) : Run sc n_X10_runs 15 [aD p0, aI x1, aI x2, v3, v4, v5, v6] none [aI y0] h = bO (putF h p0 12 20 0 (aI (nI 0))) (fun z => Run sc n_X10_runs 21 [aD p0, aI x1, aI x2, aI y0, v4, v5, v6] none [] z) := by
  refine (s_go mt_X10_runs dX10_runs_15 rfl).trans ?_
  refine (s_go mt_X10_runs dX10_runs_16 rfl).trans ?_
  refine (s_go mt_X10_runs dX10_runs_17 rfl).trans ?_
  exact q_putfield mt_X10_runs dX10_runs_18 rfl rfl rfl rfl
theorem e_X10_runs_29 (sc : SC) (p0 : Nat) (x1 : Int32) (x2 : Int32) (x3 : Int32) (x4 : Int32) (v5 : AV) (v6 : AV) (h : AH) : Run sc n_X10_runs 29 [aD p0, aI x1, aI x2, aI x3, aI x4, v5, v6] none [] h = Run sc n_X10_runs (if x3 ≤ x4 then 185 else 35) [aD p0, aI x1, aI x2, aI x3, aI x4, v5, v6] none [] h := by
  refine (s_go mt_X10_runs dX10_runs_29 rfl).trans ?_
  refine (s_go mt_X10_runs dX10_runs_31 rfl).trans ?_
  exact q_icmp mt_X10_runs dX10_runs_32 (fun _ _ _ _ => rfl) rfl
theorem e_X10_runs_35 (sc : SC) (p0 : Nat) (x1 : Int32) (x2 : Int32) (x3 : Int32) (x4 : Int32) (v5 : AV) (v6 : AV) (h : AH) : Run sc n_X10_runs 35 [aD p0, aI x1, aI x2, aI x3, aI x4, v5, v6] none [] h = bF (getF sc h (aD p0) 12 21) (fun z => Run sc n_X10_runs 39 [aD p0, aI x1, aI x2, aI x3, aI x4, v5, v6] none [z] h) := by
  refine (s_go mt_X10_runs dX10_runs_35 rfl).trans ?_
  exact q_getfield mt_X10_runs dX10_runs_36 rfl
theorem e_X10_runs_43 (sc : SC) (p0 : Nat) (x1 : Int32) (x2 : Int32) (x3 : Int32) (x4 : Int32) (v5 : AV) (v6 : AV) (h : AH) : Run sc n_X10_runs 43 [aD p0, aI x1, aI x2, aI x3, aI x4, v5, v6] none [] h = some (.inl (some (aI (nI 0))), h) := by
  refine (s_go mt_X10_runs dX10_runs_43 rfl).trans ?_
  exact q_ret (c := (some (aI (nI 0)), h)) mt_X10_runs dX10_runs_44 rfl
theorem e_X10_runs_45 (sc : SC) (p0 : Nat) (x1 : Int32) (x2 : Int32) (x3 : Int32) (x4 : Int32) (v5 : AV) (v6 : AV) (h : AH) : Run sc n_X10_runs 45 [aD p0, aI x1, aI x2, aI x3, aI x4, v5, v6] none [] h = bI (rOK sc h (aD p0) 12 = true) (bC (Call sc n_X10_partOf [aD p0, aI x1, aI x4, aI (nI 0)] h) (fun v z => Run sc n_X10_runs 53 [aD p0, aI x1, aI x2, aI x3, aI x4, v5, v6] none (v.toList ++ []) z) (fun E z => some (.inr E, z))) := by
  refine (s_go mt_X10_runs dX10_runs_45 rfl).trans ?_
  refine (s_go mt_X10_runs dX10_runs_46 rfl).trans ?_
  refine (s_go mt_X10_runs dX10_runs_47 rfl).trans ?_
  refine (s_go mt_X10_runs dX10_runs_49 rfl).trans ?_
  exact q_cV mt_X10_runs dX10_runs_50 rfl mt_X10_partOf rfl rfl rfl
theorem e_X10_runs_62 (sc : SC) (p0 : Nat) (x1 : Int32) (x2 : Int32) (x3 : Int32) (x4 : Int32) (x5 : Int32) (v6 : AV) (h : AH) : Run sc n_X10_runs 62 [aD p0, aI x1, aI x2, aI x3, aI x4, aI x5, v6] none [] h = bF (getF sc h (aD p0) 12 21) (fun z => Run sc n_X10_runs 67 [aD p0, aI x1, aI x2, aI x3, aI x4, aI x5, v6] none [z, aD p0] h) := by
  refine (s_go mt_X10_runs dX10_runs_62 rfl).trans ?_
  refine (s_go mt_X10_runs dX10_runs_63 rfl).trans ?_
  exact q_getfield mt_X10_runs dX10_runs_64 rfl
theorem e_X10_runs_74 (sc : SC) (p0 : Nat) (x1 : Int32) (x2 : Int32) (x3 : Int32) (x4 : Int32) (x5 : Int32) (v6 : AV) (h : AH) : Run sc n_X10_runs 74 [aD p0, aI x1, aI x2, aI x3, aI x4, aI x5, v6] none [] h = bC (Call sc n_X10_isBranch [aI x5] h) (fun v z => Run sc n_X10_runs 79 [aD p0, aI x1, aI x2, aI x3, aI x4, aI x5, v6] none (v.toList ++ []) z) (fun E z => some (.inr E, z)) := by
  refine (s_go mt_X10_runs dX10_runs_74 rfl).trans ?_
  exact q_cS mt_X10_runs dX10_runs_76 rfl mt_X10_isBranch rfl rfl
theorem e_X10_runs_82 (sc : SC) (p0 : Nat) (x1 : Int32) (x2 : Int32) (x3 : Int32) (x4 : Int32) (x5 : Int32) (v6 : AV) (h : AH) : Run sc n_X10_runs 82 [aD p0, aI x1, aI x2, aI x3, aI x4, aI x5, v6] none [] h = bI (rOK sc h (aD p0) 12 = true) (bC (Call sc n_X10_execute [aD p0, aI x1, aI x4] h) (fun v z => Run sc n_X10_runs 89 [aD p0, aI x1, aI x2, aI x3, aI x4, aI x5, v6] none (v.toList ++ []) z) (fun E z => some (.inr E, z))) := by
  refine (s_go mt_X10_runs dX10_runs_82 rfl).trans ?_
  refine (s_go mt_X10_runs dX10_runs_83 rfl).trans ?_
  refine (s_go mt_X10_runs dX10_runs_84 rfl).trans ?_
  exact q_cV mt_X10_runs dX10_runs_86 rfl mt_X10_execute rfl rfl rfl
theorem e_X10_runs_95 (sc : SC) (p0 : Nat) (x1 : Int32) (x2 : Int32) (x3 : Int32) (x4 : Int32) (x5 : Int32) (v6 : AV) (h : AH) : Run sc n_X10_runs 95 [aD p0, aI x1, aI x2, aI x3, aI x4, aI x5, v6] none [] h = bI (rOK sc h (aD p0) 12 = true) (bC (Call sc n_X10_isTaken [aD p0, aI x1, aI x4] h) (fun v z => Run sc n_X10_runs 102 [aD p0, aI x1, aI x2, aI x3, aI x4, aI x5, v6] none (v.toList ++ []) z) (fun E z => some (.inr E, z))) := by
  refine (s_go mt_X10_runs dX10_runs_95 rfl).trans ?_
  refine (s_go mt_X10_runs dX10_runs_96 rfl).trans ?_
  refine (s_go mt_X10_runs dX10_runs_97 rfl).trans ?_
  exact q_cV mt_X10_runs dX10_runs_99 rfl mt_X10_isTaken rfl rfl rfl
theorem e_X10_runs_118 (sc : SC) (p0 : Nat) (x1 : Int32) (x2 : Int32) (x3 : Int32) (x4 : Int32) (x5 : Int32) (x6 : Int32) (h : AH) : Run sc n_X10_runs 118 [aD p0, aI x1, aI x2, aI x3, aI x4, aI x5, aI x6] none [] h = Run sc n_X10_runs (if ¬ x6 = 0 then 133 else 123) [aD p0, aI x1, aI x2, aI x3, aI x4, aI x5, aI x6] none [] h := by
  refine (s_go mt_X10_runs dX10_runs_118 rfl).trans ?_
  exact q_if mt_X10_runs dX10_runs_120 (fun _ _ _ _ => rfl) rfl
theorem e_X10_runs_123 (sc : SC) (p0 : Nat) (x1 : Int32) (x2 : Int32) (x3 : Int32) (x4 : Int32) (x5 : Int32) (x6 : Int32) (h : AH) : Run sc n_X10_runs 123 [aD p0, aI x1, aI x2, aI x3, aI x4, aI x5, aI x6] none [] h = bI (rOK sc h (aD p0) 12 = true) (bC (Call sc n_X10_at [aD p0, aI x4, aI (nI 4)] h) (fun v z => Run sc n_X10_runs 130 [aD p0, aI x1, aI x2, aI x3, aI x4, aI x5, aI x6] none (v.toList ++ []) z) (fun E z => some (.inr E, z))) := by
  refine (s_go mt_X10_runs dX10_runs_123 rfl).trans ?_
  refine (s_go mt_X10_runs dX10_runs_124 rfl).trans ?_
  refine (s_go mt_X10_runs dX10_runs_126 rfl).trans ?_
  exact q_cV mt_X10_runs dX10_runs_127 rfl mt_X10_at rfl rfl rfl
theorem e_X10_runs_133 (sc : SC) (p0 : Nat) (x1 : Int32) (x2 : Int32) (x3 : Int32) (x4 : Int32) (x5 : Int32) (x6 : Int32) (h : AH) : Run sc n_X10_runs 133 [aD p0, aI x1, aI x2, aI x3, aI x4, aI x5, aI x6] none [] h = bF (getF sc h (aD p0) 12 21) (fun z => Run sc n_X10_runs 137 [aD p0, aI x1, aI x2, aI x3, aI x4, aI x5, aI x6] none [z] h) := by
  refine (s_go mt_X10_runs dX10_runs_133 rfl).trans ?_
  exact q_getfield mt_X10_runs dX10_runs_134 rfl
theorem e_X10_runs_141 (sc : SC) (p0 : Nat) (x1 : Int32) (x2 : Int32) (x3 : Int32) (x4 : Int32) (x5 : Int32) (x6 : Int32) (h : AH) : Run sc n_X10_runs 141 [aD p0, aI x1, aI x2, aI x3, aI x4, aI x5, aI x6] none [] h = some (.inl (some (aI (nI 0))), h) := by
  refine (s_go mt_X10_runs dX10_runs_141 rfl).trans ?_
  exact q_ret (c := (some (aI (nI 0)), h)) mt_X10_runs dX10_runs_142 rfl
theorem e_X10_runs_143 (sc : SC) (p0 : Nat) (x1 : Int32) (x2 : Int32) (x3 : Int32) (x4 : Int32) (x5 : Int32) (x6 : Int32) (h : AH) : Run sc n_X10_runs 143 [aD p0, aI x1, aI x2, aI x3, aI x4, aI x5, aI x6] none [] h = bI (rOK sc h (aD p0) 12 = true) (bC (Call sc n_X10_execute [aD p0, aI (nI 1), aI (x4 + (nI 1))] h) (fun v z => Run sc n_X10_runs 152 [aD p0, aI x1, aI x2, aI x3, aI x4, aI x5, aI x6] none (v.toList ++ []) z) (fun E z => some (.inr E, z))) := by
  refine (s_go mt_X10_runs dX10_runs_143 rfl).trans ?_
  refine (s_go mt_X10_runs dX10_runs_144 rfl).trans ?_
  refine (s_go mt_X10_runs dX10_runs_145 rfl).trans ?_
  refine (s_go mt_X10_runs dX10_runs_147 rfl).trans ?_
  refine (s_go mt_X10_runs dX10_runs_148 rfl).trans ?_
  exact q_cV mt_X10_runs dX10_runs_149 rfl mt_X10_execute rfl rfl rfl
theorem e_X10_runs_152 (sc : SC) (p0 : Nat) (x1 : Int32) (x2 : Int32) (x3 : Int32) (x4 : Int32) (x5 : Int32) (x6 : Int32) (h : AH) : Run sc n_X10_runs 152 [aD p0, aI x1, aI x2, aI x3, aI x4, aI x5, aI x6] none [] h = Run sc n_X10_runs (if x6 = 0 then 168 else 157) [aD p0, aI x1, aI x2, aI x3, aI x4, aI x5, aI x6] none [] h := by
  refine (s_go mt_X10_runs dX10_runs_152 rfl).trans ?_
  exact q_if mt_X10_runs dX10_runs_154 (fun _ _ _ _ => rfl) rfl
theorem e_X10_runs_157 (sc : SC) (p0 : Nat) (x1 : Int32) (x2 : Int32) (x3 : Int32) (x4 : Int32) (x5 : Int32) (x6 : Int32) (h : AH) : Run sc n_X10_runs 157 [aD p0, aI x1, aI x2, aI x3, aI x4, aI x5, aI x6] none [] h = bI (rOK sc h (aD p0) 12 = true) (bC (Call sc n_X10_partOf [aD p0, aI x1, aI x4, aI (nI 3)] h) (fun v z => Run sc n_X10_runs 165 [aD p0, aI x1, aI x2, aI x3, aI x4, aI x5, aI x6] none (v.toList ++ []) z) (fun E z => some (.inr E, z))) := by
  refine (s_go mt_X10_runs dX10_runs_157 rfl).trans ?_
  refine (s_go mt_X10_runs dX10_runs_158 rfl).trans ?_
  refine (s_go mt_X10_runs dX10_runs_159 rfl).trans ?_
  refine (s_go mt_X10_runs dX10_runs_161 rfl).trans ?_
  exact q_cV mt_X10_runs dX10_runs_162 rfl mt_X10_partOf rfl rfl rfl
theorem e_X10_runs_168 (sc : SC) (p0 : Nat) (x1 : Int32) (x2 : Int32) (x3 : Int32) (x4 : Int32) (x5 : Int32) (x6 : Int32) (h : AH) : Run sc n_X10_runs 168 [aD p0, aI x1, aI x2, aI x3, aI x4, aI x5, aI x6] none [] h = Run sc n_X10_runs (if x1 = 0 then 178 else 174) [aD p0, aI x1, aI x2, aI x3, aI x4, aI x5, aI x6] none [aI x4] h := by
  refine (s_go mt_X10_runs dX10_runs_168 rfl).trans ?_
  refine (s_go mt_X10_runs dX10_runs_170 rfl).trans ?_
  exact q_if mt_X10_runs dX10_runs_171 (fun _ _ _ _ => rfl) rfl
theorem e_X10_runs_174 (sc : SC) (p0 : Nat) (x1 : Int32) (x2 : Int32) (x3 : Int32) (x4 : Int32) (x5 : Int32) (x6 : Int32) (y0 : Int32) (h : AH) : Run sc n_X10_runs 174 [aD p0, aI x1, aI x2, aI x3, aI x4, aI x5, aI x6] none [aI y0] h = Run sc n_X10_runs 179 [aD p0, aI x1, aI x2, aI x3, aI x4, aI x5, aI x6] none [aI (nI 2), aI y0] h := by
  refine (s_go mt_X10_runs dX10_runs_174 rfl).trans ?_
  refine (s_go mt_X10_runs dX10_runs_175 rfl).trans ?_
  exact rfl
theorem e_X10_runs_178 (sc : SC) (p0 : Nat) (x1 : Int32) (x2 : Int32) (x3 : Int32) (x4 : Int32) (x5 : Int32) (x6 : Int32) (y0 : Int32) (h : AH) : Run sc n_X10_runs 178 [aD p0, aI x1, aI x2, aI x3, aI x4, aI x5, aI x6] none [aI y0] h = Run sc n_X10_runs 179 [aD p0, aI x1, aI x2, aI x3, aI x4, aI x5, aI x6] none [aI (nI 1), aI y0] h := by
  refine (s_go mt_X10_runs dX10_runs_178 rfl).trans ?_
  exact rfl
theorem e_X10_runs_179 (sc : SC) (p0 : Nat) (x1 : Int32) (x2 : Int32) (x3 : Int32) (x4 : Int32) (x5 : Int32) (x6 : Int32) (y0 : Int32) (y1 : Int32) (h : AH) : Run sc n_X10_runs 179 [aD p0, aI x1, aI x2, aI x3, aI x4, aI x5, aI x6] none [aI y1, aI y0] h = Run sc n_X10_runs 180 [aD p0, aI x1, aI x2, aI x3, aI x4, aI x5, aI x6] none [aI (y0 + y1)] h := by
  refine (s_go mt_X10_runs dX10_runs_179 rfl).trans ?_
  exact rfl
theorem e_X10_runs_180 (sc : SC) (p0 : Nat) (x1 : Int32) (x2 : Int32) (x3 : Int32) (x4 : Int32) (x5 : Int32) (x6 : Int32) (y0 : Int32) (h : AH) : Run sc n_X10_runs 180 [aD p0, aI x1, aI x2, aI x3, aI x4, aI x5, aI x6] none [aI y0] h = Run sc n_X10_runs 182 [aD p0, aI x1, aI x2, aI x3, aI y0, aI x5, aI x6] none [] h := by
  refine (s_go mt_X10_runs dX10_runs_180 rfl).trans ?_
  exact rfl
theorem e_X10_runs_182 (sc : SC) (p0 : Nat) (x1 : Int32) (x2 : Int32) (x3 : Int32) (x4 : Int32) (x5 : Int32) (v6 : AV) (h : AH) : Run sc n_X10_runs 182 [aD p0, aI x1, aI x2, aI x3, aI x4, aI x5, v6] none [] h = Run sc n_X10_runs 29 [aD p0, aI x1, aI x2, aI x3, aI x4, aI x5, v6] none [] h := by
  refine (s_go mt_X10_runs dX10_runs_182 rfl).trans ?_
  exact rfl
theorem e_X10_runs_185 (sc : SC) (p0 : Nat) (x1 : Int32) (x2 : Int32) (x3 : Int32) (x4 : Int32) (v5 : AV) (v6 : AV) (h : AH) : Run sc n_X10_runs 185 [aD p0, aI x1, aI x2, aI x3, aI x4, v5, v6] none [] h = some (.inl (some (aI (nI 1))), h) := by
  refine (s_go mt_X10_runs dX10_runs_185 rfl).trans ?_
  exact q_ret (c := (some (aI (nI 1)), h)) mt_X10_runs dX10_runs_186 rfl
theorem e_X10_runs_8 (sc : SC) (p0 : Nat) (x1 : Int32) (x2 : Int32) (v3 : AV) (v4 : AV) (v5 : AV) (v6 : AV) (y0 : Int32) (h : AH) : Run sc n_X10_runs 8 [aD p0, aI x1, aI x2, v3, v4, v5, v6] none [aI y0] h = Run sc n_X10_runs 15 [aD p0, aI x1, aI x2, v3, v4, v5, v6] none [aI y0] h := by
  refine (s_go mt_X10_runs dX10_runs_8 rfl).trans ?_
  exact rfl
theorem e_X10_runs_21 (sc : SC) (p0 : Nat) (x1 : Int32) (x2 : Int32) (x3 : Int32) (v4 : AV) (v5 : AV) (v6 : AV) (h : AH) : Run sc n_X10_runs 21 [aD p0, aI x1, aI x2, aI x3, v4, v5, v6] none [] h = bO (putF h p0 12 21 0 (aI (nI 0))) (fun z => Run sc n_X10_runs 26 [aD p0, aI x1, aI x2, aI x3, v4, v5, v6] none [] z) := by
  refine (s_go mt_X10_runs dX10_runs_21 rfl).trans ?_
  refine (s_go mt_X10_runs dX10_runs_22 rfl).trans ?_
  exact q_putfield mt_X10_runs dX10_runs_23 rfl rfl rfl rfl
theorem e_X10_runs_39 (sc : SC) (p0 : Nat) (x1 : Int32) (x2 : Int32) (x3 : Int32) (x4 : Int32) (v5 : AV) (v6 : AV) (y0 : Int32) (h : AH) : Run sc n_X10_runs 39 [aD p0, aI x1, aI x2, aI x3, aI x4, v5, v6] none [aI y0] h = Run sc n_X10_runs (if ¬ y0 = x2 then 45 else 43) [aD p0, aI x1, aI x2, aI x3, aI x4, v5, v6] none [] h := by
  refine (s_go mt_X10_runs dX10_runs_39 rfl).trans ?_
  exact q_icmp mt_X10_runs dX10_runs_40 (fun _ _ _ _ => rfl) rfl
theorem e_X10_runs_53 (sc : SC) (p0 : Nat) (x1 : Int32) (x2 : Int32) (x3 : Int32) (x4 : Int32) (v5 : AV) (v6 : AV) (y0 : Int32) (h : AH) : Run sc n_X10_runs 53 [aD p0, aI x1, aI x2, aI x3, aI x4, v5, v6] none [aI y0] h = Run sc n_X10_runs (if ¬ y0 = (nI 11) then 74 else 62) [aD p0, aI x1, aI x2, aI x3, aI x4, aI y0, v6] none [] h := by
  refine (s_go mt_X10_runs dX10_runs_53 rfl).trans ?_
  refine (s_go mt_X10_runs dX10_runs_55 rfl).trans ?_
  refine (s_go mt_X10_runs dX10_runs_57 rfl).trans ?_
  exact q_icmp mt_X10_runs dX10_runs_59 (fun _ _ _ _ => rfl) rfl
theorem e_X10_runs_67 (sc : SC) (p0 : Nat) (x1 : Int32) (x2 : Int32) (x3 : Int32) (x4 : Int32) (x5 : Int32) (v6 : AV) (q0 : Nat) (y1 : Int32) (h : AH) : Run sc n_X10_runs 67 [aD p0, aI x1, aI x2, aI x3, aI x4, aI x5, v6] none [aI y1, aD q0] h = bO (putF h q0 12 21 0 (aI (y1 + (nI 1)))) (fun z => Run sc n_X10_runs 72 [aD p0, aI x1, aI x2, aI x3, aI x4, aI x5, v6] none [] z) := by
  refine (s_go mt_X10_runs dX10_runs_67 rfl).trans ?_
  refine (s_go mt_X10_runs dX10_runs_68 rfl).trans ?_
  exact q_putfield mt_X10_runs dX10_runs_69 rfl rfl rfl rfl
theorem e_X10_runs_79 (sc : SC) (p0 : Nat) (x1 : Int32) (x2 : Int32) (x3 : Int32) (x4 : Int32) (x5 : Int32) (v6 : AV) (y0 : Int32) (h : AH) : Run sc n_X10_runs 79 [aD p0, aI x1, aI x2, aI x3, aI x4, aI x5, v6] none [aI y0] h = Run sc n_X10_runs (if ¬ y0 = 0 then 95 else 82) [aD p0, aI x1, aI x2, aI x3, aI x4, aI x5, v6] none [] h := by
  exact q_if mt_X10_runs dX10_runs_79 (fun _ _ _ _ => rfl) rfl
theorem e_X10_runs_89 (sc : SC) (p0 : Nat) (x1 : Int32) (x2 : Int32) (x3 : Int32) (x4 : Int32) (x5 : Int32) (v6 : AV) (h : AH) : Run sc n_X10_runs 89 [aD p0, aI x1, aI x2, aI x3, aI x4, aI x5, v6] none [] h = Run sc n_X10_runs 182 [aD p0, aI x1, aI x2, aI x3, aI (x4 + nI 1), aI x5, v6] none [] h := by
  refine (s_go mt_X10_runs dX10_runs_89 rfl).trans ?_
  refine (s_go mt_X10_runs dX10_runs_92 rfl).trans ?_
  exact rfl
theorem e_X10_runs_102 (sc : SC) (p0 : Nat) (x1 : Int32) (x2 : Int32) (x3 : Int32) (x4 : Int32) (x5 : Int32) (v6 : AV) (y0 : Int32) (h : AH) : Run sc n_X10_runs 102 [aD p0, aI x1, aI x2, aI x3, aI x4, aI x5, v6] none [aI y0] h = bF (getF sc h (aD p0) 12 21) (fun z => Run sc n_X10_runs 109 [aD p0, aI x1, aI x2, aI x3, aI x4, aI x5, aI y0] none [z, aD p0] h) := by
  refine (s_go mt_X10_runs dX10_runs_102 rfl).trans ?_
  refine (s_go mt_X10_runs dX10_runs_104 rfl).trans ?_
  refine (s_go mt_X10_runs dX10_runs_105 rfl).trans ?_
  exact q_getfield mt_X10_runs dX10_runs_106 rfl
theorem e_X10_runs_130 (sc : SC) (p0 : Nat) (x1 : Int32) (x2 : Int32) (x3 : Int32) (x4 : Int32) (x5 : Int32) (x6 : Int32) (y0 : Int32) (h : AH) : Run sc n_X10_runs 130 [aD p0, aI x1, aI x2, aI x3, aI x4, aI x5, aI x6] none [aI y0] h = Run sc n_X10_runs (if ¬ y0 = 0 then 152 else 133) [aD p0, aI x1, aI x2, aI x3, aI x4, aI x5, aI x6] none [] h := by
  exact q_if mt_X10_runs dX10_runs_130 (fun _ _ _ _ => rfl) rfl
theorem e_X10_runs_137 (sc : SC) (p0 : Nat) (x1 : Int32) (x2 : Int32) (x3 : Int32) (x4 : Int32) (x5 : Int32) (x6 : Int32) (y0 : Int32) (h : AH) : Run sc n_X10_runs 137 [aD p0, aI x1, aI x2, aI x3, aI x4, aI x5, aI x6] none [aI y0] h = Run sc n_X10_runs (if ¬ y0 = x2 then 143 else 141) [aD p0, aI x1, aI x2, aI x3, aI x4, aI x5, aI x6] none [] h := by
  refine (s_go mt_X10_runs dX10_runs_137 rfl).trans ?_
  exact q_icmp mt_X10_runs dX10_runs_138 (fun _ _ _ _ => rfl) rfl
theorem e_X10_runs_165 (sc : SC) (p0 : Nat) (x1 : Int32) (x2 : Int32) (x3 : Int32) (x4 : Int32) (x5 : Int32) (x6 : Int32) (y0 : Int32) (h : AH) : Run sc n_X10_runs 165 [aD p0, aI x1, aI x2, aI x3, aI x4, aI x5, aI x6] none [aI y0] h = Run sc n_X10_runs 180 [aD p0, aI x1, aI x2, aI x3, aI x4, aI x5, aI x6] none [aI y0] h := by
  refine (s_go mt_X10_runs dX10_runs_165 rfl).trans ?_
  exact rfl
theorem e_X10_runs_26 (sc : SC) (p0 : Nat) (x1 : Int32) (x2 : Int32) (x3 : Int32) (v4 : AV) (v5 : AV) (v6 : AV) (h : AH) : Run sc n_X10_runs 26 [aD p0, aI x1, aI x2, aI x3, v4, v5, v6] none [] h = Run sc n_X10_runs 29 [aD p0, aI x1, aI x2, aI x3, aI (nI 0), v5, v6] none [] h := by
  refine (s_go mt_X10_runs dX10_runs_26 rfl).trans ?_
  refine (s_go mt_X10_runs dX10_runs_27 rfl).trans ?_
  exact rfl
theorem e_X10_runs_72 (sc : SC) (p0 : Nat) (x1 : Int32) (x2 : Int32) (x3 : Int32) (x4 : Int32) (x5 : Int32) (v6 : AV) (h : AH) : Run sc n_X10_runs 72 [aD p0, aI x1, aI x2, aI x3, aI x4, aI x5, v6] none [] h = some (.inl (some (aI (nI 1))), h) := by
  refine (s_go mt_X10_runs dX10_runs_72 rfl).trans ?_
  exact q_ret (c := (some (aI (nI 1)), h)) mt_X10_runs dX10_runs_73 rfl
theorem e_X10_runs_109 (sc : SC) (p0 : Nat) (x1 : Int32) (x2 : Int32) (x3 : Int32) (x4 : Int32) (x5 : Int32) (x6 : Int32) (q0 : Nat) (y1 : Int32) (h : AH) : Run sc n_X10_runs 109 [aD p0, aI x1, aI x2, aI x3, aI x4, aI x5, aI x6] none [aI y1, aD q0] h = bO (putF h q0 12 21 0 (aI (y1 + (nI 1)))) (fun z => Run sc n_X10_runs 114 [aD p0, aI x1, aI x2, aI x3, aI x4, aI x5, aI x6] none [] z) := by
  refine (s_go mt_X10_runs dX10_runs_109 rfl).trans ?_
  refine (s_go mt_X10_runs dX10_runs_110 rfl).trans ?_
  exact q_putfield mt_X10_runs dX10_runs_111 rfl rfl rfl rfl
theorem e_X10_runs_114 (sc : SC) (p0 : Nat) (x1 : Int32) (x2 : Int32) (x3 : Int32) (x4 : Int32) (x5 : Int32) (x6 : Int32) (h : AH) : Run sc n_X10_runs 114 [aD p0, aI x1, aI x2, aI x3, aI x4, aI x5, aI x6] none [] h = Run sc n_X10_runs (if x1 = 0 then 152 else 118) [aD p0, aI x1, aI x2, aI x3, aI x4, aI x5, aI x6] none [] h := by
  refine (s_go mt_X10_runs dX10_runs_114 rfl).trans ?_
  exact q_if mt_X10_runs dX10_runs_115 (fun _ _ _ _ => rfl) rfl
/-! BranchSlotFillerModel.run(ZI)I -/
theorem e_X10_run_0 (sc : SC) (p0 : Nat) (x1 : Int32) (x2 : Int32) (v3 : AV) (h : AH) : Run sc n_X10_run 0 [aD p0, aI x1, aI x2, v3] none [] h = bO (putF h p0 12 0 0 (aI (nI 0))) (fun z => Run sc n_X10_run 5 [aD p0, aI x1, aI x2, v3] none [] z) := by
  refine (s_go mt_X10_run dX10_run_0 rfl).trans ?_
  refine (s_go mt_X10_run dX10_run_1 rfl).trans ?_
  exact q_putfield mt_X10_run dX10_run_2 rfl rfl rfl rfl
theorem e_X10_run_16 (sc : SC) (p0 : Nat) (x1 : Int32) (x2 : Int32) (v3 : AV) (h : AH) : Run sc n_X10_run 16 [aD p0, aI x1, aI x2, v3] none [] h = bI (rOK sc h (aD p0) 12 = true) (bC (Call sc n_X10_fail [aD p0, aI (nI 1)] h) (fun v z => Run sc n_X10_run 21 [aD p0, aI x1, aI x2, v3] none (v.toList ++ []) z) (fun E z => some (.inr E, z))) := by
  refine (s_go mt_X10_run dX10_run_16 rfl).trans ?_
  refine (s_go mt_X10_run dX10_run_17 rfl).trans ?_
  exact q_cV mt_X10_run dX10_run_18 rfl mt_X10_fail rfl rfl rfl
theorem e_X10_run_22 (sc : SC) (p0 : Nat) (x1 : Int32) (x2 : Int32) (v3 : AV) (h : AH) : Run sc n_X10_run 22 [aD p0, aI x1, aI x2, v3] none [] h = Run sc n_X10_run 24 [aD p0, aI x1, aI x2, aI (nI 0)] none [] h := by
  refine (s_go mt_X10_run dX10_run_22 rfl).trans ?_
  refine (s_go mt_X10_run dX10_run_23 rfl).trans ?_
  exact rfl
theorem e_X10_run_24 (sc : SC) (p0 : Nat) (x1 : Int32) (x2 : Int32) (x3 : Int32) (h : AH) : Run sc n_X10_run 24 [aD p0, aI x1, aI x2, aI x3] none [] h = Run sc n_X10_run (if (nI 24) ≤ x3 then 48 else 30) [aD p0, aI x1, aI x2, aI x3] none [] h := by
  refine (s_go mt_X10_run dX10_run_24 rfl).trans ?_
  refine (s_go mt_X10_run dX10_run_25 rfl).trans ?_
  exact q_icmp mt_X10_run dX10_run_27 (fun _ _ _ _ => rfl) rfl
theorem e_X10_run_30 (sc : SC) (p0 : Nat) (x1 : Int32) (x2 : Int32) (x3 : Int32) (h : AH) : Run sc n_X10_run 30 [aD p0, aI x1, aI x2, aI x3] none [] h = bF (getF sc h (aD p0) 12 18) (fun z => Run sc n_X10_run 34 [aD p0, aI x1, aI x2, aI x3] none [z] h) := by
  refine (s_go mt_X10_run dX10_run_30 rfl).trans ?_
  exact q_getfield mt_X10_run dX10_run_31 rfl
theorem e_X10_run_48 (sc : SC) (p0 : Nat) (x1 : Int32) (x2 : Int32) (x3 : Int32) (h : AH) : Run sc n_X10_run 48 [aD p0, aI x1, aI x2, aI x3] none [] h = bI (rOK sc h (aD p0) 12 = true) (bC (Call sc n_X10_runs [aD p0, aI x1, aI x2] h) (fun v z => Run sc n_X10_run 54 [aD p0, aI x1, aI x2, aI x3] none (v.toList ++ []) z) (fun E z => some (.inr E, z))) := by
  refine (s_go mt_X10_run dX10_run_48 rfl).trans ?_
  refine (s_go mt_X10_run dX10_run_49 rfl).trans ?_
  refine (s_go mt_X10_run dX10_run_50 rfl).trans ?_
  exact q_cV mt_X10_run dX10_run_51 rfl mt_X10_runs rfl rfl rfl
theorem e_X10_run_57 (sc : SC) (p0 : Nat) (x1 : Int32) (x2 : Int32) (x3 : Int32) (h : AH) : Run sc n_X10_run 57 [aD p0, aI x1, aI x2, aI x3] none [] h = bI (rOK sc h (aD p0) 12 = true) (bC (Call sc n_X10_fail [aD p0, aI (nI 2)] h) (fun v z => Run sc n_X10_run 62 [aD p0, aI x1, aI x2, aI x3] none (v.toList ++ []) z) (fun E z => some (.inr E, z))) := by
  refine (s_go mt_X10_run dX10_run_57 rfl).trans ?_
  refine (s_go mt_X10_run dX10_run_58 rfl).trans ?_
  exact q_cV mt_X10_run dX10_run_59 rfl mt_X10_fail rfl rfl rfl
theorem e_X10_run_63 (sc : SC) (p0 : Nat) (x1 : Int32) (x2 : Int32) (x3 : Int32) (h : AH) : Run sc n_X10_run 63 [aD p0, aI x1, aI x2, aI x3] none [] h = bO (putF h p0 12 22 1 (aI (nI 1))) (fun z => Run sc n_X10_run 68 [aD p0, aI x1, aI x2, aI x3] none [] z) := by
  refine (s_go mt_X10_run dX10_run_63 rfl).trans ?_
  refine (s_go mt_X10_run dX10_run_64 rfl).trans ?_
  exact q_putfield mt_X10_run dX10_run_65 rfl rfl rfl rfl
theorem e_X10_run_70 (sc : SC) (p0 : Nat) (x1 : Int32) (x2 : Int32) (x3 : Int32) (h : AH) : Run sc n_X10_run 70 [aD p0, aI x1, aI x2, aI x3] none [] h = Run sc n_X10_run (if (nI 24) ≤ x3 then 94 else 76) [aD p0, aI x1, aI x2, aI x3] none [] h := by
  refine (s_go mt_X10_run dX10_run_70 rfl).trans ?_
  refine (s_go mt_X10_run dX10_run_71 rfl).trans ?_
  exact q_icmp mt_X10_run dX10_run_73 (fun _ _ _ _ => rfl) rfl
theorem e_X10_run_76 (sc : SC) (p0 : Nat) (x1 : Int32) (x2 : Int32) (x3 : Int32) (h : AH) : Run sc n_X10_run 76 [aD p0, aI x1, aI x2, aI x3] none [] h = bF (getF sc h (aD p0) 12 23) (fun z => Run sc n_X10_run 80 [aD p0, aI x1, aI x2, aI x3] none [z] h) := by
  refine (s_go mt_X10_run dX10_run_76 rfl).trans ?_
  exact q_getfield mt_X10_run dX10_run_77 rfl
theorem e_X10_run_94 (sc : SC) (p0 : Nat) (x1 : Int32) (x2 : Int32) (x3 : Int32) (h : AH) : Run sc n_X10_run 94 [aD p0, aI x1, aI x2, aI x3] none [] h = Run sc n_X10_run 96 [aD p0, aI x1, aI x2, aI (nI 0)] none [] h := by
  refine (s_go mt_X10_run dX10_run_94 rfl).trans ?_
  refine (s_go mt_X10_run dX10_run_95 rfl).trans ?_
  exact rfl
theorem e_X10_run_96 (sc : SC) (p0 : Nat) (x1 : Int32) (x2 : Int32) (x3 : Int32) (h : AH) : Run sc n_X10_run 96 [aD p0, aI x1, aI x2, aI x3] none [] h = bF (getF sc h (aD p0) 12 20) (fun z => Run sc n_X10_run 101 [aD p0, aI x1, aI x2, aI x3] none [z, aI x3] h) := by
  refine (s_go mt_X10_run dX10_run_96 rfl).trans ?_
  refine (s_go mt_X10_run dX10_run_97 rfl).trans ?_
  exact q_getfield mt_X10_run dX10_run_98 rfl
theorem e_X10_run_104 (sc : SC) (p0 : Nat) (x1 : Int32) (x2 : Int32) (x3 : Int32) (h : AH) : Run sc n_X10_run 104 [aD p0, aI x1, aI x2, aI x3] none [] h = bF (getF sc h (aD p0) 12 24) (fun z => Run sc n_X10_run 108 [aD p0, aI x1, aI x2, aI x3] none [z] h) := by
  refine (s_go mt_X10_run dX10_run_104 rfl).trans ?_
  exact q_getfield mt_X10_run dX10_run_105 rfl
theorem e_X10_run_122 (sc : SC) (p0 : Nat) (x1 : Int32) (x2 : Int32) (x3 : Int32) (h : AH) : Run sc n_X10_run 122 [aD p0, aI x1, aI x2, aI x3] none [] h = bF (getF sc h (aD p0) 12 20) (fun z => Run sc n_X10_run 127 [aD p0, aI x1, aI x2, aI x3] none [z, aD p0] h) := by
  refine (s_go mt_X10_run dX10_run_122 rfl).trans ?_
  refine (s_go mt_X10_run dX10_run_123 rfl).trans ?_
  exact q_getfield mt_X10_run dX10_run_124 rfl
theorem e_X10_run_5 (sc : SC) (p0 : Nat) (x1 : Int32) (x2 : Int32) (v3 : AV) (h : AH) : Run sc n_X10_run 5 [aD p0, aI x1, aI x2, v3] none [] h = bC (Call sc n_X10_isIn [aI x2, aI (nI 1), aI (nI 2000)] h) (fun v z => Run sc n_X10_run 13 [aD p0, aI x1, aI x2, v3] none (v.toList ++ []) z) (fun E z => some (.inr E, z)) := by
  refine (s_go mt_X10_run dX10_run_5 rfl).trans ?_
  refine (s_go mt_X10_run dX10_run_6 rfl).trans ?_
  refine (s_go mt_X10_run dX10_run_7 rfl).trans ?_
  exact q_cS mt_X10_run dX10_run_10 rfl mt_X10_isIn rfl rfl
theorem e_X10_run_21 (sc : SC) (p0 : Nat) (x1 : Int32) (x2 : Int32) (v3 : AV) (y0 : Int32) (h : AH) : Run sc n_X10_run 21 [aD p0, aI x1, aI x2, v3] none [aI y0] h = some (.inl (some (aI y0)), h) := by
  exact q_ret (c := (some (aI y0), h)) mt_X10_run dX10_run_21 rfl
theorem e_X10_run_34 (sc : SC) (p0 : Nat) (x1 : Int32) (x2 : Int32) (x3 : Int32) (q0 : Nat) (h : AH) : Run sc n_X10_run 34 [aD p0, aI x1, aI x2, aI x3] none [aD q0] h = bF (getF sc h (aD p0) 12 17) (fun z => Run sc n_X10_run 39 [aD p0, aI x1, aI x2, aI x3] none [z, aI x3, aD q0] h) := by
  refine (s_go mt_X10_run dX10_run_34 rfl).trans ?_
  refine (s_go mt_X10_run dX10_run_35 rfl).trans ?_
  exact q_getfield mt_X10_run dX10_run_36 rfl
theorem e_X10_run_54 (sc : SC) (p0 : Nat) (x1 : Int32) (x2 : Int32) (x3 : Int32) (y0 : Int32) (h : AH) : Run sc n_X10_run 54 [aD p0, aI x1, aI x2, aI x3] none [aI y0] h = Run sc n_X10_run (if ¬ y0 = 0 then 63 else 57) [aD p0, aI x1, aI x2, aI x3] none [] h := by
  exact q_if mt_X10_run dX10_run_54 (fun _ _ _ _ => rfl) rfl
theorem e_X10_run_62 (sc : SC) (p0 : Nat) (x1 : Int32) (x2 : Int32) (x3 : Int32) (y0 : Int32) (h : AH) : Run sc n_X10_run 62 [aD p0, aI x1, aI x2, aI x3] none [aI y0] h = some (.inl (some (aI y0)), h) := by
  exact q_ret (c := (some (aI y0), h)) mt_X10_run dX10_run_62 rfl
theorem e_X10_run_68 (sc : SC) (p0 : Nat) (x1 : Int32) (x2 : Int32) (x3 : Int32) (h : AH) : Run sc n_X10_run 68 [aD p0, aI x1, aI x2, aI x3] none [] h = Run sc n_X10_run 70 [aD p0, aI x1, aI x2, aI (nI 0)] none [] h := by
  refine (s_go mt_X10_run dX10_run_68 rfl).trans ?_
  refine (s_go mt_X10_run dX10_run_69 rfl).trans ?_
  exact rfl
theorem e_X10_run_80 (sc : SC) (p0 : Nat) (x1 : Int32) (x2 : Int32) (x3 : Int32) (q0 : Nat) (h : AH) : Run sc n_X10_run 80 [aD p0, aI x1, aI x2, aI x3] none [aD q0] h = bF (getF sc h (aD p0) 12 18) (fun z => Run sc n_X10_run 85 [aD p0, aI x1, aI x2, aI x3] none [z, aI x3, aD q0] h) := by
  refine (s_go mt_X10_run dX10_run_80 rfl).trans ?_
  refine (s_go mt_X10_run dX10_run_81 rfl).trans ?_
  exact q_getfield mt_X10_run dX10_run_82 rfl
theorem e_X10_run_101 (sc : SC) (p0 : Nat) (x1 : Int32) (x2 : Int32) (x3 : Int32) (y0 : Int32) (y1 : Int32) (h : AH) : Run sc n_X10_run 101 [aD p0, aI x1, aI x2, aI x3] none [aI y1, aI y0] h = Run sc n_X10_run (if y1 ≤ y0 then 122 else 104) [aD p0, aI x1, aI x2, aI x3] none [] h := by
  exact q_icmp mt_X10_run dX10_run_101 (fun _ _ _ _ => rfl) rfl
theorem e_X10_run_108 (sc : SC) (p0 : Nat) (x1 : Int32) (x2 : Int32) (x3 : Int32) (q0 : Nat) (h : AH) : Run sc n_X10_run 108 [aD p0, aI x1, aI x2, aI x3] none [aD q0] h = bF (getF sc h (aD p0) 12 19) (fun z => Run sc n_X10_run 113 [aD p0, aI x1, aI x2, aI x3] none [z, aI x3, aD q0] h) := by
  refine (s_go mt_X10_run dX10_run_108 rfl).trans ?_
  refine (s_go mt_X10_run dX10_run_109 rfl).trans ?_
  exact q_getfield mt_X10_run dX10_run_110 rfl
theorem e_X10_run_127 (sc : SC) (p0 : Nat) (x1 : Int32) (x2 : Int32) (x3 : Int32) (q0 : Nat) (y1 : Int32) (h : AH) : Run sc n_X10_run 127 [aD p0, aI x1, aI x2, aI x3] none [aI y1, aD q0] h = bO (putF h q0 12 25 0 (aI y1)) (fun z => Run sc n_X10_run 130 [aD p0, aI x1, aI x2, aI x3] none [] z) := by
  exact q_putfield mt_X10_run dX10_run_127 rfl rfl rfl rfl
theorem e_X10_run_13 (sc : SC) (p0 : Nat) (x1 : Int32) (x2 : Int32) (v3 : AV) (y0 : Int32) (h : AH) : Run sc n_X10_run 13 [aD p0, aI x1, aI x2, v3] none [aI y0] h = Run sc n_X10_run (if ¬ y0 = 0 then 22 else 16) [aD p0, aI x1, aI x2, v3] none [] h := by
  exact q_if mt_X10_run dX10_run_13 (fun _ _ _ _ => rfl) rfl
theorem e_X10_run_39 (sc : SC) (p0 : Nat) (x1 : Int32) (x2 : Int32) (x3 : Int32) (q0 : Nat) (y1 : Int32) (q2 : Nat) (h : AH) : Run sc n_X10_run 39 [aD p0, aI x1, aI x2, aI x3] none [aD q2, aI y1, aD q0] h = bO (ldI sc h (fun t => t == 0) (aD q2) x3) (fun z => Run sc n_X10_run 41 [aD p0, aI x1, aI x2, aI x3] none [aI z, aI y1, aD q0] h) := by
  refine (s_go mt_X10_run dX10_run_39 rfl).trans ?_
  exact q_iaload mt_X10_run dX10_run_40
theorem e_X10_run_85 (sc : SC) (p0 : Nat) (x1 : Int32) (x2 : Int32) (x3 : Int32) (q0 : Nat) (y1 : Int32) (q2 : Nat) (h : AH) : Run sc n_X10_run 85 [aD p0, aI x1, aI x2, aI x3] none [aD q2, aI y1, aD q0] h = bO (ldI sc h (fun t => t == 0) (aD q2) x3) (fun z => Run sc n_X10_run 87 [aD p0, aI x1, aI x2, aI x3] none [aI z, aI y1, aD q0] h) := by
  refine (s_go mt_X10_run dX10_run_85 rfl).trans ?_
  exact q_iaload mt_X10_run dX10_run_86
theorem e_X10_run_113 (sc : SC) (p0 : Nat) (x1 : Int32) (x2 : Int32) (x3 : Int32) (q0 : Nat) (y1 : Int32) (q2 : Nat) (h : AH) : Run sc n_X10_run 113 [aD p0, aI x1, aI x2, aI x3] none [aD q2, aI y1, aD q0] h = bO (ldI sc h (fun t => t == 0) (aD q2) x3) (fun z => Run sc n_X10_run 115 [aD p0, aI x1, aI x2, aI x3] none [aI z, aI y1, aD q0] h) := by
  refine (s_go mt_X10_run dX10_run_113 rfl).trans ?_
  exact q_iaload mt_X10_run dX10_run_114
theorem e_X10_run_130 (sc : SC) (p0 : Nat) (x1 : Int32) (x2 : Int32) (x3 : Int32) (h : AH) : Run sc n_X10_run 130 [aD p0, aI x1, aI x2, aI x3] none [] h = bF (getF sc h (aD p0) 12 21) (fun z => Run sc n_X10_run 134 [aD p0, aI x1, aI x2, aI x3] none [z] h) := by
  refine (s_go mt_X10_run dX10_run_130 rfl).trans ?_
  exact q_getfield mt_X10_run dX10_run_131 rfl
theorem e_X10_run_41 (sc : SC) (p0 : Nat) (x1 : Int32) (x2 : Int32) (x3 : Int32) (q0 : Nat) (y1 : Int32) (y2 : Int32) (h : AH) : Run sc n_X10_run 41 [aD p0, aI x1, aI x2, aI x3] none [aI y2, aI y1, aD q0] h = bO (stI h (fun t => t == 0) q0 y1 y2) (fun z => Run sc n_X10_run 42 [aD p0, aI x1, aI x2, aI x3] none [] z) := by
  exact q_iastore mt_X10_run dX10_run_41
theorem e_X10_run_87 (sc : SC) (p0 : Nat) (x1 : Int32) (x2 : Int32) (x3 : Int32) (q0 : Nat) (y1 : Int32) (y2 : Int32) (h : AH) : Run sc n_X10_run 87 [aD p0, aI x1, aI x2, aI x3] none [aI y2, aI y1, aD q0] h = bO (stI h (fun t => t == 0) q0 y1 y2) (fun z => Run sc n_X10_run 88 [aD p0, aI x1, aI x2, aI x3] none [] z) := by
  exact q_iastore mt_X10_run dX10_run_87
theorem e_X10_run_115 (sc : SC) (p0 : Nat) (x1 : Int32) (x2 : Int32) (x3 : Int32) (q0 : Nat) (y1 : Int32) (y2 : Int32) (h : AH) : Run sc n_X10_run 115 [aD p0, aI x1, aI x2, aI x3] none [aI y2, aI y1, aD q0] h = bO (stI h (fun t => t == 0) q0 y1 y2) (fun z => Run sc n_X10_run 116 [aD p0, aI x1, aI x2, aI x3] none [] z) := by
  exact q_iastore mt_X10_run dX10_run_115
theorem e_X10_run_134 (sc : SC) (p0 : Nat) (x1 : Int32) (x2 : Int32) (x3 : Int32) (y0 : Int32) (h : AH) : Run sc n_X10_run 134 [aD p0, aI x1, aI x2, aI x3] none [aI y0] h = some (.inl (some (aI y0)), h) := by
  exact q_ret (c := (some (aI y0), h)) mt_X10_run dX10_run_134 rfl
theorem e_X10_run_42 (sc : SC) (p0 : Nat) (x1 : Int32) (x2 : Int32) (x3 : Int32) (h : AH) : Run sc n_X10_run 42 [aD p0, aI x1, aI x2, aI x3] none [] h = Run sc n_X10_run 24 [aD p0, aI x1, aI x2, aI (x3 + nI 1)] none [] h := by
  refine (s_go mt_X10_run dX10_run_42 rfl).trans ?_
  refine (s_go mt_X10_run dX10_run_45 rfl).trans ?_
  exact rfl
theorem e_X10_run_88 (sc : SC) (p0 : Nat) (x1 : Int32) (x2 : Int32) (x3 : Int32) (h : AH) : Run sc n_X10_run 88 [aD p0, aI x1, aI x2, aI x3] none [] h = Run sc n_X10_run 70 [aD p0, aI x1, aI x2, aI (x3 + nI 1)] none [] h := by
  refine (s_go mt_X10_run dX10_run_88 rfl).trans ?_
  refine (s_go mt_X10_run dX10_run_91 rfl).trans ?_
  exact rfl
theorem e_X10_run_116 (sc : SC) (p0 : Nat) (x1 : Int32) (x2 : Int32) (x3 : Int32) (h : AH) : Run sc n_X10_run 116 [aD p0, aI x1, aI x2, aI x3] none [] h = Run sc n_X10_run 96 [aD p0, aI x1, aI x2, aI (x3 + nI 1)] none [] h := by
  refine (s_go mt_X10_run dX10_run_116 rfl).trans ?_
  refine (s_go mt_X10_run dX10_run_119 rfl).trans ?_
  exact rfl
/-! BranchSlotFillerModel.finalValue(ZI)I -/
theorem e_X10_finalValue_0 (sc : SC) (p0 : Nat) (x1 : Int32) (x2 : Int32) (h : AH) : Run sc n_X10_finalValue 0 [aD p0, aI x1, aI x2] none [] h = bF (getF sc h (aD p0) 12 22) (fun z => Run sc n_X10_finalValue 5 [aD p0, aI x1, aI x2] none [z, aD p0] h) := by
  refine (s_go mt_X10_finalValue dX10_finalValue_0 rfl).trans ?_
  refine (s_go mt_X10_finalValue dX10_finalValue_1 rfl).trans ?_
  exact q_getfield mt_X10_finalValue dX10_finalValue_2 rfl
theorem e_X10_finalValue_8 (sc : SC) (p0 : Nat) (x1 : Int32) (x2 : Int32) (q0 : Nat) (h : AH) : Run sc n_X10_finalValue 8 [aD p0, aI x1, aI x2] none [aD q0] h = Run sc n_X10_finalValue 26 [aD p0, aI x1, aI x2] none [aI (nI 1), aD q0] h := by
  refine (s_go mt_X10_finalValue dX10_finalValue_8 rfl).trans ?_
  refine (s_go mt_X10_finalValue dX10_finalValue_9 rfl).trans ?_
  exact rfl
theorem e_X10_finalValue_12 (sc : SC) (p0 : Nat) (x1 : Int32) (x2 : Int32) (q0 : Nat) (h : AH) : Run sc n_X10_finalValue 12 [aD p0, aI x1, aI x2] none [aD q0] h = bC (Call sc n_X10_placeOf [aI x1, aI x2] h) (fun v z => Run sc n_X10_finalValue 17 [aD p0, aI x1, aI x2] none (v.toList ++ [aD q0]) z) (fun E z => some (.inr E, z)) := by
  refine (s_go mt_X10_finalValue dX10_finalValue_12 rfl).trans ?_
  refine (s_go mt_X10_finalValue dX10_finalValue_13 rfl).trans ?_
  exact q_cS mt_X10_finalValue dX10_finalValue_14 rfl mt_X10_placeOf rfl rfl
theorem e_X10_finalValue_21 (sc : SC) (p0 : Nat) (x1 : Int32) (x2 : Int32) (q0 : Nat) (h : AH) : Run sc n_X10_finalValue 21 [aD p0, aI x1, aI x2] none [aD q0] h = Run sc n_X10_finalValue 26 [aD p0, aI x1, aI x2] none [aI (nI 2), aD q0] h := by
  refine (s_go mt_X10_finalValue dX10_finalValue_21 rfl).trans ?_
  refine (s_go mt_X10_finalValue dX10_finalValue_22 rfl).trans ?_
  exact rfl
theorem e_X10_finalValue_25 (sc : SC) (p0 : Nat) (x1 : Int32) (x2 : Int32) (q0 : Nat) (h : AH) : Run sc n_X10_finalValue 25 [aD p0, aI x1, aI x2] none [aD q0] h = Run sc n_X10_finalValue 26 [aD p0, aI x1, aI x2] none [aI (nI 0), aD q0] h := by
  refine (s_go mt_X10_finalValue dX10_finalValue_25 rfl).trans ?_
  exact rfl
theorem e_X10_finalValue_26 (sc : SC) (p0 : Nat) (x1 : Int32) (x2 : Int32) (q0 : Nat) (y1 : Int32) (h : AH) : Run sc n_X10_finalValue 26 [aD p0, aI x1, aI x2] none [aI y1, aD q0] h = bO (putF h q0 12 0 0 (aI y1)) (fun z => Run sc n_X10_finalValue 29 [aD p0, aI x1, aI x2] none [] z) := by
  exact q_putfield mt_X10_finalValue dX10_finalValue_26 rfl rfl rfl rfl
theorem e_X10_finalValue_36 (sc : SC) (p0 : Nat) (x1 : Int32) (x2 : Int32) (h : AH) : Run sc n_X10_finalValue 36 [aD p0, aI x1, aI x2] none [] h = bF (getF sc h (aD p0) 12 23) (fun z => Run sc n_X10_finalValue 40 [aD p0, aI x1, aI x2] none [z] h) := by
  refine (s_go mt_X10_finalValue dX10_finalValue_36 rfl).trans ?_
  exact q_getfield mt_X10_finalValue dX10_finalValue_37 rfl
theorem e_X10_finalValue_49 (sc : SC) (p0 : Nat) (x1 : Int32) (x2 : Int32) (h : AH) : Run sc n_X10_finalValue 49 [aD p0, aI x1, aI x2] none [] h = Run sc n_X10_finalValue 50 [aD p0, aI x1, aI x2] none [aI (nI 0)] h := by
  refine (s_go mt_X10_finalValue dX10_finalValue_49 rfl).trans ?_
  exact rfl
theorem e_X10_finalValue_50 (sc : SC) (p0 : Nat) (x1 : Int32) (x2 : Int32) (y0 : Int32) (h : AH) : Run sc n_X10_finalValue 50 [aD p0, aI x1, aI x2] none [aI y0] h = some (.inl (some (aI y0)), h) := by
  exact q_ret (c := (some (aI y0), h)) mt_X10_finalValue dX10_finalValue_50 rfl
theorem e_X10_finalValue_5 (sc : SC) (p0 : Nat) (x1 : Int32) (x2 : Int32) (q0 : Nat) (y1 : Int32) (h : AH) : Run sc n_X10_finalValue 5 [aD p0, aI x1, aI x2] none [aI y1, aD q0] h = Run sc n_X10_finalValue (if ¬ y1 = 0 then 12 else 8) [aD p0, aI x1, aI x2] none [aD q0] h := by
  exact q_if mt_X10_finalValue dX10_finalValue_5 (fun _ _ _ _ => rfl) rfl
theorem e_X10_finalValue_17 (sc : SC) (p0 : Nat) (x1 : Int32) (x2 : Int32) (q0 : Nat) (y1 : Int32) (h : AH) : Run sc n_X10_finalValue 17 [aD p0, aI x1, aI x2] none [aI y1, aD q0] h = Run sc n_X10_finalValue (if ¬ y1 = (-1) then 25 else 21) [aD p0, aI x1, aI x2] none [aD q0] h := by
  refine (s_go mt_X10_finalValue dX10_finalValue_17 rfl).trans ?_
  exact q_icmp mt_X10_finalValue dX10_finalValue_18 (fun _ _ _ _ => rfl) rfl
theorem e_X10_finalValue_29 (sc : SC) (p0 : Nat) (x1 : Int32) (x2 : Int32) (h : AH) : Run sc n_X10_finalValue 29 [aD p0, aI x1, aI x2] none [] h = bF (getF sc h (aD p0) 12 0) (fun z => Run sc n_X10_finalValue 33 [aD p0, aI x1, aI x2] none [z] h) := by
  refine (s_go mt_X10_finalValue dX10_finalValue_29 rfl).trans ?_
  exact q_getfield mt_X10_finalValue dX10_finalValue_30 rfl
theorem e_X10_finalValue_40 (sc : SC) (p0 : Nat) (x1 : Int32) (x2 : Int32) (q0 : Nat) (h : AH) : Run sc n_X10_finalValue 40 [aD p0, aI x1, aI x2] none [aD q0] h = bC (Call sc n_X10_placeOf [aI x1, aI x2] h) (fun v z => Run sc n_X10_finalValue 45 [aD p0, aI x1, aI x2] none (v.toList ++ [aD q0]) z) (fun E z => some (.inr E, z)) := by
  refine (s_go mt_X10_finalValue dX10_finalValue_40 rfl).trans ?_
  refine (s_go mt_X10_finalValue dX10_finalValue_41 rfl).trans ?_
  exact q_cS mt_X10_finalValue dX10_finalValue_42 rfl mt_X10_placeOf rfl rfl
theorem e_X10_finalValue_33 (sc : SC) (p0 : Nat) (x1 : Int32) (x2 : Int32) (y0 : Int32) (h : AH) : Run sc n_X10_finalValue 33 [aD p0, aI x1, aI x2] none [aI y0] h = Run sc n_X10_finalValue (if ¬ y0 = 0 then 49 else 36) [aD p0, aI x1, aI x2] none [] h := by
  exact q_if mt_X10_finalValue dX10_finalValue_33 (fun _ _ _ _ => rfl) rfl
theorem e_X10_finalValue_45 (sc : SC) (p0 : Nat) (x1 : Int32) (x2 : Int32) (q0 : Nat) (y1 : Int32) (h : AH) : Run sc n_X10_finalValue 45 [aD p0, aI x1, aI x2] none [aI y1, aD q0] h = bO (ldI sc h (fun t => t == 0) (aD q0) y1) (fun z => Run sc n_X10_finalValue 46 [aD p0, aI x1, aI x2] none [aI z] h) := by
  exact q_iaload mt_X10_finalValue dX10_finalValue_45
theorem e_X10_finalValue_46 (sc : SC) (p0 : Nat) (x1 : Int32) (x2 : Int32) (y0 : Int32) (h : AH) : Run sc n_X10_finalValue 46 [aD p0, aI x1, aI x2] none [aI y0] h = Run sc n_X10_finalValue 50 [aD p0, aI x1, aI x2] none [aI y0] h := by
  refine (s_go mt_X10_finalValue dX10_finalValue_46 rfl).trans ?_
  exact rfl
/-! BranchSlotFillerModel.outputs()I -/
theorem e_X10_outputs_0 (sc : SC) (p0 : Nat) (h : AH) : Run sc n_X10_outputs 0 [aD p0] none [] h = bO (putF h p0 12 0 0 (aI (nI 0))) (fun z => Run sc n_X10_outputs 5 [aD p0] none [] z) := by
  refine (s_go mt_X10_outputs dX10_outputs_0 rfl).trans ?_
  refine (s_go mt_X10_outputs dX10_outputs_1 rfl).trans ?_
  exact q_putfield mt_X10_outputs dX10_outputs_2 rfl rfl rfl rfl
theorem e_X10_outputs_12 (sc : SC) (p0 : Nat) (h : AH) : Run sc n_X10_outputs 12 [aD p0] none [] h = bF (getF sc h (aD p0) 12 25) (fun z => Run sc n_X10_outputs 16 [aD p0] none [z] h) := by
  refine (s_go mt_X10_outputs dX10_outputs_12 rfl).trans ?_
  exact q_getfield mt_X10_outputs dX10_outputs_13 rfl
theorem e_X10_outputs_19 (sc : SC) (p0 : Nat) (h : AH) : Run sc n_X10_outputs 19 [aD p0] none [] h = bI (rOK sc h (aD p0) 12 = true) (bC (Call sc n_X10_fail [aD p0, aI (nI 1)] h) (fun v z => Run sc n_X10_outputs 24 [aD p0] none (v.toList ++ []) z) (fun E z => some (.inr E, z))) := by
  refine (s_go mt_X10_outputs dX10_outputs_19 rfl).trans ?_
  refine (s_go mt_X10_outputs dX10_outputs_20 rfl).trans ?_
  exact q_cV mt_X10_outputs dX10_outputs_21 rfl mt_X10_fail rfl rfl rfl
theorem e_X10_outputs_24 (sc : SC) (p0 : Nat) (y0 : Int32) (h : AH) : Run sc n_X10_outputs 24 [aD p0] none [aI y0] h = some (.inl (some (aI y0)), h) := by
  exact q_ret (c := (some (aI y0), h)) mt_X10_outputs dX10_outputs_24 rfl
theorem e_X10_outputs_5 (sc : SC) (p0 : Nat) (h : AH) : Run sc n_X10_outputs 5 [aD p0] none [] h = bF (getF sc h (aD p0) 12 22) (fun z => Run sc n_X10_outputs 9 [aD p0] none [z] h) := by
  refine (s_go mt_X10_outputs dX10_outputs_5 rfl).trans ?_
  exact q_getfield mt_X10_outputs dX10_outputs_6 rfl
theorem e_X10_outputs_16 (sc : SC) (p0 : Nat) (y0 : Int32) (h : AH) : Run sc n_X10_outputs 16 [aD p0] none [aI y0] h = Run sc n_X10_outputs 24 [aD p0] none [aI y0] h := by
  refine (s_go mt_X10_outputs dX10_outputs_16 rfl).trans ?_
  exact rfl
theorem e_X10_outputs_9 (sc : SC) (p0 : Nat) (y0 : Int32) (h : AH) : Run sc n_X10_outputs 9 [aD p0] none [aI y0] h = Run sc n_X10_outputs (if y0 = 0 then 19 else 12) [aD p0] none [] h := by
  exact q_if mt_X10_outputs dX10_outputs_9 (fun _ _ _ _ => rfl) rfl
/-! BranchSlotFillerModel.output(I)I -/
theorem e_X10_output_0 (sc : SC) (p0 : Nat) (x1 : Int32) (h : AH) : Run sc n_X10_output 0 [aD p0, aI x1] none [] h = bF (getF sc h (aD p0) 12 22) (fun z => Run sc n_X10_output 5 [aD p0, aI x1] none [z, aD p0] h) := by
  refine (s_go mt_X10_output dX10_output_0 rfl).trans ?_
  refine (s_go mt_X10_output dX10_output_1 rfl).trans ?_
  exact q_getfield mt_X10_output dX10_output_2 rfl
theorem e_X10_output_8 (sc : SC) (p0 : Nat) (x1 : Int32) (q0 : Nat) (h : AH) : Run sc n_X10_output 8 [aD p0, aI x1] none [aD q0] h = Run sc n_X10_output 31 [aD p0, aI x1] none [aI (nI 1), aD q0] h := by
  refine (s_go mt_X10_output dX10_output_8 rfl).trans ?_
  refine (s_go mt_X10_output dX10_output_9 rfl).trans ?_
  exact rfl
theorem e_X10_output_12 (sc : SC) (p0 : Nat) (x1 : Int32) (q0 : Nat) (h : AH) : Run sc n_X10_output 12 [aD p0, aI x1] none [aD q0] h = bF (getF sc h (aD p0) 12 25) (fun z => Run sc n_X10_output 18 [aD p0, aI x1] none [z, aI (nI 0), aI x1, aD q0] h) := by
  refine (s_go mt_X10_output dX10_output_12 rfl).trans ?_
  refine (s_go mt_X10_output dX10_output_13 rfl).trans ?_
  refine (s_go mt_X10_output dX10_output_14 rfl).trans ?_
  exact q_getfield mt_X10_output dX10_output_15 rfl
theorem e_X10_output_26 (sc : SC) (p0 : Nat) (x1 : Int32) (q0 : Nat) (h : AH) : Run sc n_X10_output 26 [aD p0, aI x1] none [aD q0] h = Run sc n_X10_output 31 [aD p0, aI x1] none [aI (nI 2), aD q0] h := by
  refine (s_go mt_X10_output dX10_output_26 rfl).trans ?_
  refine (s_go mt_X10_output dX10_output_27 rfl).trans ?_
  exact rfl
theorem e_X10_output_30 (sc : SC) (p0 : Nat) (x1 : Int32) (q0 : Nat) (h : AH) : Run sc n_X10_output 30 [aD p0, aI x1] none [aD q0] h = Run sc n_X10_output 31 [aD p0, aI x1] none [aI (nI 0), aD q0] h := by
  refine (s_go mt_X10_output dX10_output_30 rfl).trans ?_
  exact rfl
theorem e_X10_output_31 (sc : SC) (p0 : Nat) (x1 : Int32) (q0 : Nat) (y1 : Int32) (h : AH) : Run sc n_X10_output 31 [aD p0, aI x1] none [aI y1, aD q0] h = bO (putF h q0 12 0 0 (aI y1)) (fun z => Run sc n_X10_output 34 [aD p0, aI x1] none [] z) := by
  exact q_putfield mt_X10_output dX10_output_31 rfl rfl rfl rfl
theorem e_X10_output_41 (sc : SC) (p0 : Nat) (x1 : Int32) (h : AH) : Run sc n_X10_output 41 [aD p0, aI x1] none [] h = bF (getF sc h (aD p0) 12 24) (fun z => Run sc n_X10_output 45 [aD p0, aI x1] none [z] h) := by
  refine (s_go mt_X10_output dX10_output_41 rfl).trans ?_
  exact q_getfield mt_X10_output dX10_output_42 rfl
theorem e_X10_output_50 (sc : SC) (p0 : Nat) (x1 : Int32) (h : AH) : Run sc n_X10_output 50 [aD p0, aI x1] none [] h = Run sc n_X10_output 51 [aD p0, aI x1] none [aI (nI 0)] h := by
  refine (s_go mt_X10_output dX10_output_50 rfl).trans ?_
  exact rfl
theorem e_X10_output_51 (sc : SC) (p0 : Nat) (x1 : Int32) (y0 : Int32) (h : AH) : Run sc n_X10_output 51 [aD p0, aI x1] none [aI y0] h = some (.inl (some (aI y0)), h) := by
  exact q_ret (c := (some (aI y0), h)) mt_X10_output dX10_output_51 rfl
theorem e_X10_output_5 (sc : SC) (p0 : Nat) (x1 : Int32) (q0 : Nat) (y1 : Int32) (h : AH) : Run sc n_X10_output 5 [aD p0, aI x1] none [aI y1, aD q0] h = Run sc n_X10_output (if ¬ y1 = 0 then 12 else 8) [aD p0, aI x1] none [aD q0] h := by
  exact q_if mt_X10_output dX10_output_5 (fun _ _ _ _ => rfl) rfl
theorem e_X10_output_18 (sc : SC) (p0 : Nat) (x1 : Int32) (q0 : Nat) (y1 : Int32) (y2 : Int32) (y3 : Int32) (h : AH) : Run sc n_X10_output 18 [aD p0, aI x1] none [aI y3, aI y2, aI y1, aD q0] h = bC (Call sc n_X10_isIn [aI y1, aI y2, aI (y3 - (nI 1))] h) (fun v z => Run sc n_X10_output 23 [aD p0, aI x1] none (v.toList ++ [aD q0]) z) (fun E z => some (.inr E, z)) := by
  refine (s_go mt_X10_output dX10_output_18 rfl).trans ?_
  refine (s_go mt_X10_output dX10_output_19 rfl).trans ?_
  exact q_cS mt_X10_output dX10_output_20 rfl mt_X10_isIn rfl rfl
theorem e_X10_output_34 (sc : SC) (p0 : Nat) (x1 : Int32) (h : AH) : Run sc n_X10_output 34 [aD p0, aI x1] none [] h = bF (getF sc h (aD p0) 12 0) (fun z => Run sc n_X10_output 38 [aD p0, aI x1] none [z] h) := by
  refine (s_go mt_X10_output dX10_output_34 rfl).trans ?_
  exact q_getfield mt_X10_output dX10_output_35 rfl
theorem e_X10_output_45 (sc : SC) (p0 : Nat) (x1 : Int32) (q0 : Nat) (h : AH) : Run sc n_X10_output 45 [aD p0, aI x1] none [aD q0] h = bO (ldI sc h (fun t => t == 0) (aD q0) x1) (fun z => Run sc n_X10_output 47 [aD p0, aI x1] none [aI z] h) := by
  refine (s_go mt_X10_output dX10_output_45 rfl).trans ?_
  exact q_iaload mt_X10_output dX10_output_46
theorem e_X10_output_23 (sc : SC) (p0 : Nat) (x1 : Int32) (q0 : Nat) (y1 : Int32) (h : AH) : Run sc n_X10_output 23 [aD p0, aI x1] none [aI y1, aD q0] h = Run sc n_X10_output (if ¬ y1 = 0 then 30 else 26) [aD p0, aI x1] none [aD q0] h := by
  exact q_if mt_X10_output dX10_output_23 (fun _ _ _ _ => rfl) rfl
theorem e_X10_output_38 (sc : SC) (p0 : Nat) (x1 : Int32) (y0 : Int32) (h : AH) : Run sc n_X10_output 38 [aD p0, aI x1] none [aI y0] h = Run sc n_X10_output (if ¬ y0 = 0 then 50 else 41) [aD p0, aI x1] none [] h := by
  exact q_if mt_X10_output dX10_output_38 (fun _ _ _ _ => rfl) rfl
theorem e_X10_output_47 (sc : SC) (p0 : Nat) (x1 : Int32) (y0 : Int32) (h : AH) : Run sc n_X10_output 47 [aD p0, aI x1] none [aI y0] h = Run sc n_X10_output 51 [aD p0, aI x1] none [aI y0] h := by
  refine (s_go mt_X10_output dX10_output_47 rfl).trans ?_
  exact rfl
/-! BranchSlotFillerModel.draw()V -/
theorem e_X10_draw_0 (sc : SC) (p0 : Nat) (v1 : AV) (h : AH) : Run sc n_X10_draw 0 [aD p0, v1] none [] h = Run sc n_X10_draw 2 [aD p0, aI (nI 0)] none [] h := by
  refine (s_go mt_X10_draw dX10_draw_0 rfl).trans ?_
  refine (s_go mt_X10_draw dX10_draw_1 rfl).trans ?_
  exact rfl
theorem e_X10_draw_2 (sc : SC) (p0 : Nat) (x1 : Int32) (h : AH) : Run sc n_X10_draw 2 [aD p0, aI x1] none [] h = Run sc n_X10_draw (if (nI 24) ≤ x1 then 46 else 8) [aD p0, aI x1] none [] h := by
  refine (s_go mt_X10_draw dX10_draw_2 rfl).trans ?_
  refine (s_go mt_X10_draw dX10_draw_3 rfl).trans ?_
  exact q_icmp mt_X10_draw dX10_draw_5 (fun _ _ _ _ => rfl) rfl
theorem e_X10_draw_8 (sc : SC) (p0 : Nat) (x1 : Int32) (h : AH) : Run sc n_X10_draw 8 [aD p0, aI x1] none [] h = bF (getF sc h (aD p0) 12 27) (fun z => Run sc n_X10_draw 13 [aD p0, aI x1] none [z, aD p0] h) := by
  refine (s_go mt_X10_draw dX10_draw_8 rfl).trans ?_
  refine (s_go mt_X10_draw dX10_draw_9 rfl).trans ?_
  exact q_getfield mt_X10_draw dX10_draw_10 rfl
theorem e_X10_draw_46 (sc : SC) (p0 : Nat) (x1 : Int32) (h : AH) : Run sc n_X10_draw 46 [aD p0, aI x1] none [] h = some (.inl none, h) := by
  exact q_ret (c := (none, h)) mt_X10_draw dX10_draw_46 rfl
theorem e_X10_draw_13 (sc : SC) (p0 : Nat) (x1 : Int32) (q0 : Nat) (y1 : Int32) (h : AH) : Run sc n_X10_draw 13 [aD p0, aI x1] none [aI y1, aD q0] h = bO (putF h q0 12 27 0 (aI ((y1 * (nI 1103515245)) + (nI 12345)))) (fun z => Run sc n_X10_draw 24 [aD p0, aI x1] none [] z) := by
  refine (s_go mt_X10_draw dX10_draw_13 rfl).trans ?_
  refine (s_go mt_X10_draw dX10_draw_16 rfl).trans ?_
  refine (s_go mt_X10_draw dX10_draw_17 rfl).trans ?_
  refine (s_go mt_X10_draw dX10_draw_20 rfl).trans ?_
  exact q_putfield mt_X10_draw dX10_draw_21 rfl rfl rfl rfl
theorem e_X10_draw_24 (sc : SC) (p0 : Nat) (x1 : Int32) (h : AH) : Run sc n_X10_draw 24 [aD p0, aI x1] none [] h = bF (getF sc h (aD p0) 12 26) (fun z => Run sc n_X10_draw 28 [aD p0, aI x1] none [z] h) := by
  refine (s_go mt_X10_draw dX10_draw_24 rfl).trans ?_
  exact q_getfield mt_X10_draw dX10_draw_25 rfl
theorem e_X10_draw_28 (sc : SC) (p0 : Nat) (x1 : Int32) (q0 : Nat) (h : AH) : Run sc n_X10_draw 28 [aD p0, aI x1] none [aD q0] h = bF (getF sc h (aD p0) 12 27) (fun z => Run sc n_X10_draw 33 [aD p0, aI x1] none [z, aI x1, aD q0] h) := by
  refine (s_go mt_X10_draw dX10_draw_28 rfl).trans ?_
  refine (s_go mt_X10_draw dX10_draw_29 rfl).trans ?_
  exact q_getfield mt_X10_draw dX10_draw_30 rfl
theorem e_X10_draw_33 (sc : SC) (p0 : Nat) (x1 : Int32) (q0 : Nat) (y1 : Int32) (y2 : Int32) (h : AH) : Run sc n_X10_draw 33 [aD p0, aI x1] none [aI y2, aI y1, aD q0] h = bI (¬ (nI 10) = 0) (Run sc n_X10_draw 39 [aD p0, aI x1] none [aI ((((y2).toUInt32 >>> ((nI 16).toUInt32 &&& Int32.toUInt32 31)).toInt32) - (((y2).toUInt32 >>> ((nI 16).toUInt32 &&& Int32.toUInt32 31)).toInt32) / (nI 10) * (nI 10)), aI y1, aD q0] h) := by
  refine (s_go mt_X10_draw dX10_draw_33 rfl).trans ?_
  refine (s_go mt_X10_draw dX10_draw_35 rfl).trans ?_
  refine (s_go mt_X10_draw dX10_draw_36 rfl).trans ?_
  exact q_irem mt_X10_draw dX10_draw_38
theorem e_X10_draw_39 (sc : SC) (p0 : Nat) (x1 : Int32) (q0 : Nat) (y1 : Int32) (y2 : Int32) (h : AH) : Run sc n_X10_draw 39 [aD p0, aI x1] none [aI y2, aI y1, aD q0] h = bO (stI h (fun t => t == 0) q0 y1 y2) (fun z => Run sc n_X10_draw 40 [aD p0, aI x1] none [] z) := by
  exact q_iastore mt_X10_draw dX10_draw_39
theorem e_X10_draw_40 (sc : SC) (p0 : Nat) (x1 : Int32) (h : AH) : Run sc n_X10_draw 40 [aD p0, aI x1] none [] h = Run sc n_X10_draw 2 [aD p0, aI (x1 + nI 1)] none [] h := by
  refine (s_go mt_X10_draw dX10_draw_40 rfl).trans ?_
  refine (s_go mt_X10_draw dX10_draw_43 rfl).trans ?_
  exact rfl
/-! BranchSlotFillerModel.runsDrawn(Z)Z -/
theorem e_X10_runsDrawn_0 (sc : SC) (p0 : Nat) (x1 : Int32) (v2 : AV) (h : AH) : Run sc n_X10_runsDrawn 0 [aD p0, aI x1, v2] none [] h = Run sc n_X10_runsDrawn 2 [aD p0, aI x1, aI (nI 0)] none [] h := by
  refine (s_go mt_X10_runsDrawn dX10_runsDrawn_0 rfl).trans ?_
  refine (s_go mt_X10_runsDrawn dX10_runsDrawn_1 rfl).trans ?_
  exact rfl
theorem e_X10_runsDrawn_2 (sc : SC) (p0 : Nat) (x1 : Int32) (x2 : Int32) (h : AH) : Run sc n_X10_runsDrawn 2 [aD p0, aI x1, aI x2] none [] h = Run sc n_X10_runsDrawn (if (nI 24) ≤ x2 then 26 else 8) [aD p0, aI x1, aI x2] none [] h := by
  refine (s_go mt_X10_runsDrawn dX10_runsDrawn_2 rfl).trans ?_
  refine (s_go mt_X10_runsDrawn dX10_runsDrawn_3 rfl).trans ?_
  exact q_icmp mt_X10_runsDrawn dX10_runsDrawn_5 (fun _ _ _ _ => rfl) rfl
theorem e_X10_runsDrawn_8 (sc : SC) (p0 : Nat) (x1 : Int32) (x2 : Int32) (h : AH) : Run sc n_X10_runsDrawn 8 [aD p0, aI x1, aI x2] none [] h = bF (getF sc h (aD p0) 12 18) (fun z => Run sc n_X10_runsDrawn 12 [aD p0, aI x1, aI x2] none [z] h) := by
  refine (s_go mt_X10_runsDrawn dX10_runsDrawn_8 rfl).trans ?_
  exact q_getfield mt_X10_runsDrawn dX10_runsDrawn_9 rfl
theorem e_X10_runsDrawn_26 (sc : SC) (p0 : Nat) (x1 : Int32) (x2 : Int32) (h : AH) : Run sc n_X10_runsDrawn 26 [aD p0, aI x1, aI x2] none [] h = bI (rOK sc h (aD p0) 12 = true) (bC (Call sc n_X10_runs [aD p0, aI x1, aI (nI 300)] h) (fun v z => Run sc n_X10_runsDrawn 34 [aD p0, aI x1, aI x2] none (v.toList ++ []) z) (fun E z => some (.inr E, z))) := by
  refine (s_go mt_X10_runsDrawn dX10_runsDrawn_26 rfl).trans ?_
  refine (s_go mt_X10_runsDrawn dX10_runsDrawn_27 rfl).trans ?_
  refine (s_go mt_X10_runsDrawn dX10_runsDrawn_28 rfl).trans ?_
  exact q_cV mt_X10_runsDrawn dX10_runsDrawn_31 rfl mt_X10_runs rfl rfl rfl
theorem e_X10_runsDrawn_12 (sc : SC) (p0 : Nat) (x1 : Int32) (x2 : Int32) (q0 : Nat) (h : AH) : Run sc n_X10_runsDrawn 12 [aD p0, aI x1, aI x2] none [aD q0] h = bF (getF sc h (aD p0) 12 26) (fun z => Run sc n_X10_runsDrawn 17 [aD p0, aI x1, aI x2] none [z, aI x2, aD q0] h) := by
  refine (s_go mt_X10_runsDrawn dX10_runsDrawn_12 rfl).trans ?_
  refine (s_go mt_X10_runsDrawn dX10_runsDrawn_13 rfl).trans ?_
  exact q_getfield mt_X10_runsDrawn dX10_runsDrawn_14 rfl
theorem e_X10_runsDrawn_34 (sc : SC) (p0 : Nat) (x1 : Int32) (x2 : Int32) (y0 : Int32) (h : AH) : Run sc n_X10_runsDrawn 34 [aD p0, aI x1, aI x2] none [aI y0] h = bI (retK (some FieldType.boolean) y0 = true) (some (.inl (some (aI y0)), h)) := by
  exact q_iret mt_X10_runsDrawn dX10_runsDrawn_34
theorem e_X10_runsDrawn_17 (sc : SC) (p0 : Nat) (x1 : Int32) (x2 : Int32) (q0 : Nat) (y1 : Int32) (q2 : Nat) (h : AH) : Run sc n_X10_runsDrawn 17 [aD p0, aI x1, aI x2] none [aD q2, aI y1, aD q0] h = bO (ldI sc h (fun t => t == 0) (aD q2) x2) (fun z => Run sc n_X10_runsDrawn 19 [aD p0, aI x1, aI x2] none [aI z, aI y1, aD q0] h) := by
  refine (s_go mt_X10_runsDrawn dX10_runsDrawn_17 rfl).trans ?_
  exact q_iaload mt_X10_runsDrawn dX10_runsDrawn_18
theorem e_X10_runsDrawn_19 (sc : SC) (p0 : Nat) (x1 : Int32) (x2 : Int32) (q0 : Nat) (y1 : Int32) (y2 : Int32) (h : AH) : Run sc n_X10_runsDrawn 19 [aD p0, aI x1, aI x2] none [aI y2, aI y1, aD q0] h = bO (stI h (fun t => t == 0) q0 y1 y2) (fun z => Run sc n_X10_runsDrawn 20 [aD p0, aI x1, aI x2] none [] z) := by
  exact q_iastore mt_X10_runsDrawn dX10_runsDrawn_19
theorem e_X10_runsDrawn_20 (sc : SC) (p0 : Nat) (x1 : Int32) (x2 : Int32) (h : AH) : Run sc n_X10_runsDrawn 20 [aD p0, aI x1, aI x2] none [] h = Run sc n_X10_runsDrawn 2 [aD p0, aI x1, aI (x2 + nI 1)] none [] h := by
  refine (s_go mt_X10_runsDrawn dX10_runsDrawn_20 rfl).trans ?_
  refine (s_go mt_X10_runsDrawn dX10_runsDrawn_23 rfl).trans ?_
  exact rfl
/-! BranchSlotFillerModel.isDifferent()Z -/
theorem e_X10_isDifferent_0 (sc : SC) (p0 : Nat) (v1 : AV) (v2 : AV) (v3 : AV) (h : AH) : Run sc n_X10_isDifferent 0 [aD p0, v1, v2, v3] none [] h = bI (rOK sc h (aD p0) 12 = true) (bC (Call sc n_X10_runsDrawn [aD p0, aI (nI 0)] h) (fun v z => Run sc n_X10_isDifferent 5 [aD p0, v1, v2, v3] none (v.toList ++ []) z) (fun E z => some (.inr E, z))) := by
  refine (s_go mt_X10_isDifferent dX10_isDifferent_0 rfl).trans ?_
  refine (s_go mt_X10_isDifferent dX10_isDifferent_1 rfl).trans ?_
  exact q_cV mt_X10_isDifferent dX10_isDifferent_2 rfl mt_X10_runsDrawn rfl rfl rfl
theorem e_X10_isDifferent_8 (sc : SC) (p0 : Nat) (v1 : AV) (v2 : AV) (v3 : AV) (h : AH) : Run sc n_X10_isDifferent 8 [aD p0, v1, v2, v3] none [] h = some (.inl (some (aI (nI 0))), h) := by
  refine (s_go mt_X10_isDifferent dX10_isDifferent_8 rfl).trans ?_
  exact q_ret (c := (some (aI (nI 0)), h)) mt_X10_isDifferent dX10_isDifferent_9 rfl
theorem e_X10_isDifferent_10 (sc : SC) (p0 : Nat) (v1 : AV) (v2 : AV) (v3 : AV) (h : AH) : Run sc n_X10_isDifferent 10 [aD p0, v1, v2, v3] none [] h = bF (getF sc h (aD p0) 12 20) (fun z => Run sc n_X10_isDifferent 14 [aD p0, v1, v2, v3] none [z] h) := by
  refine (s_go mt_X10_isDifferent dX10_isDifferent_10 rfl).trans ?_
  exact q_getfield mt_X10_isDifferent dX10_isDifferent_11 rfl
theorem e_X10_isDifferent_17 (sc : SC) (p0 : Nat) (x1 : Int32) (x2 : Int32) (v3 : AV) (h : AH) : Run sc n_X10_isDifferent 17 [aD p0, aI x1, aI x2, v3] none [] h = Run sc n_X10_isDifferent (if x1 ≤ x2 then 40 else 22) [aD p0, aI x1, aI x2, v3] none [] h := by
  refine (s_go mt_X10_isDifferent dX10_isDifferent_17 rfl).trans ?_
  refine (s_go mt_X10_isDifferent dX10_isDifferent_18 rfl).trans ?_
  exact q_icmp mt_X10_isDifferent dX10_isDifferent_19 (fun _ _ _ _ => rfl) rfl
theorem e_X10_isDifferent_22 (sc : SC) (p0 : Nat) (x1 : Int32) (x2 : Int32) (v3 : AV) (h : AH) : Run sc n_X10_isDifferent 22 [aD p0, aI x1, aI x2, v3] none [] h = bF (getF sc h (aD p0) 12 29) (fun z => Run sc n_X10_isDifferent 26 [aD p0, aI x1, aI x2, v3] none [z] h) := by
  refine (s_go mt_X10_isDifferent dX10_isDifferent_22 rfl).trans ?_
  exact q_getfield mt_X10_isDifferent dX10_isDifferent_23 rfl
theorem e_X10_isDifferent_40 (sc : SC) (p0 : Nat) (x1 : Int32) (x2 : Int32) (v3 : AV) (h : AH) : Run sc n_X10_isDifferent 40 [aD p0, aI x1, aI x2, v3] none [] h = Run sc n_X10_isDifferent 42 [aD p0, aI x1, aI (nI 0), v3] none [] h := by
  refine (s_go mt_X10_isDifferent dX10_isDifferent_40 rfl).trans ?_
  refine (s_go mt_X10_isDifferent dX10_isDifferent_41 rfl).trans ?_
  exact rfl
theorem e_X10_isDifferent_42 (sc : SC) (p0 : Nat) (x1 : Int32) (x2 : Int32) (v3 : AV) (h : AH) : Run sc n_X10_isDifferent 42 [aD p0, aI x1, aI x2, v3] none [] h = Run sc n_X10_isDifferent (if (nI 16) ≤ x2 then 69 else 48) [aD p0, aI x1, aI x2, v3] none [] h := by
  refine (s_go mt_X10_isDifferent dX10_isDifferent_42 rfl).trans ?_
  refine (s_go mt_X10_isDifferent dX10_isDifferent_43 rfl).trans ?_
  exact q_icmp mt_X10_isDifferent dX10_isDifferent_45 (fun _ _ _ _ => rfl) rfl
theorem e_X10_isDifferent_48 (sc : SC) (p0 : Nat) (x1 : Int32) (x2 : Int32) (v3 : AV) (h : AH) : Run sc n_X10_isDifferent 48 [aD p0, aI x1, aI x2, v3] none [] h = bF (getF sc h (aD p0) 12 28) (fun z => Run sc n_X10_isDifferent 52 [aD p0, aI x1, aI x2, v3] none [z] h) := by
  refine (s_go mt_X10_isDifferent dX10_isDifferent_48 rfl).trans ?_
  exact q_getfield mt_X10_isDifferent dX10_isDifferent_49 rfl
theorem e_X10_isDifferent_69 (sc : SC) (p0 : Nat) (x1 : Int32) (x2 : Int32) (v3 : AV) (h : AH) : Run sc n_X10_isDifferent 69 [aD p0, aI x1, aI x2, v3] none [] h = bI (rOK sc h (aD p0) 12 = true) (bC (Call sc n_X10_runsDrawn [aD p0, aI (nI 1)] h) (fun v z => Run sc n_X10_isDifferent 74 [aD p0, aI x1, aI x2, v3] none (v.toList ++ []) z) (fun E z => some (.inr E, z))) := by
  refine (s_go mt_X10_isDifferent dX10_isDifferent_69 rfl).trans ?_
  refine (s_go mt_X10_isDifferent dX10_isDifferent_70 rfl).trans ?_
  exact q_cV mt_X10_isDifferent dX10_isDifferent_71 rfl mt_X10_runsDrawn rfl rfl rfl
theorem e_X10_isDifferent_77 (sc : SC) (p0 : Nat) (x1 : Int32) (x2 : Int32) (v3 : AV) (h : AH) : Run sc n_X10_isDifferent 77 [aD p0, aI x1, aI x2, v3] none [] h = some (.inl (some (aI (nI 0))), h) := by
  refine (s_go mt_X10_isDifferent dX10_isDifferent_77 rfl).trans ?_
  exact q_ret (c := (some (aI (nI 0)), h)) mt_X10_isDifferent dX10_isDifferent_78 rfl
theorem e_X10_isDifferent_79 (sc : SC) (p0 : Nat) (x1 : Int32) (x2 : Int32) (v3 : AV) (h : AH) : Run sc n_X10_isDifferent 79 [aD p0, aI x1, aI x2, v3] none [] h = bF (getF sc h (aD p0) 12 20) (fun z => Run sc n_X10_isDifferent 84 [aD p0, aI x1, aI x2, v3] none [z, aI x1] h) := by
  refine (s_go mt_X10_isDifferent dX10_isDifferent_79 rfl).trans ?_
  refine (s_go mt_X10_isDifferent dX10_isDifferent_80 rfl).trans ?_
  exact q_getfield mt_X10_isDifferent dX10_isDifferent_81 rfl
theorem e_X10_isDifferent_87 (sc : SC) (p0 : Nat) (x1 : Int32) (x2 : Int32) (v3 : AV) (h : AH) : Run sc n_X10_isDifferent 87 [aD p0, aI x1, aI x2, v3] none [] h = Run sc n_X10_isDifferent 92 [aD p0, aI x1, aI x2, v3] none [aI (nI 1)] h := by
  refine (s_go mt_X10_isDifferent dX10_isDifferent_87 rfl).trans ?_
  refine (s_go mt_X10_isDifferent dX10_isDifferent_88 rfl).trans ?_
  exact rfl
theorem e_X10_isDifferent_91 (sc : SC) (p0 : Nat) (x1 : Int32) (x2 : Int32) (v3 : AV) (h : AH) : Run sc n_X10_isDifferent 91 [aD p0, aI x1, aI x2, v3] none [] h = Run sc n_X10_isDifferent 92 [aD p0, aI x1, aI x2, v3] none [aI (nI 0)] h := by
  refine (s_go mt_X10_isDifferent dX10_isDifferent_91 rfl).trans ?_
  exact rfl
theorem e_X10_isDifferent_92 (sc : SC) (p0 : Nat) (x1 : Int32) (x2 : Int32) (v3 : AV) (y0 : Int32) (h : AH) : Run sc n_X10_isDifferent 92 [aD p0, aI x1, aI x2, v3] none [aI y0] h = Run sc n_X10_isDifferent 95 [aD p0, aI x1, aI y0, aI (nI 0)] none [] h := by
  refine (s_go mt_X10_isDifferent dX10_isDifferent_92 rfl).trans ?_
  refine (s_go mt_X10_isDifferent dX10_isDifferent_93 rfl).trans ?_
  refine (s_go mt_X10_isDifferent dX10_isDifferent_94 rfl).trans ?_
  exact rfl
theorem e_X10_isDifferent_95 (sc : SC) (p0 : Nat) (x1 : Int32) (x2 : Int32) (x3 : Int32) (h : AH) : Run sc n_X10_isDifferent 95 [aD p0, aI x1, aI x2, aI x3] none [] h = Run sc n_X10_isDifferent (if x1 ≤ x3 then 131 else 100) [aD p0, aI x1, aI x2, aI x3] none [] h := by
  refine (s_go mt_X10_isDifferent dX10_isDifferent_95 rfl).trans ?_
  refine (s_go mt_X10_isDifferent dX10_isDifferent_96 rfl).trans ?_
  exact q_icmp mt_X10_isDifferent dX10_isDifferent_97 (fun _ _ _ _ => rfl) rfl
theorem e_X10_isDifferent_100 (sc : SC) (p0 : Nat) (x1 : Int32) (x2 : Int32) (x3 : Int32) (h : AH) : Run sc n_X10_isDifferent 100 [aD p0, aI x1, aI x2, aI x3] none [] h = Run sc n_X10_isDifferent (if ¬ x2 = 0 then 131 else 104) [aD p0, aI x1, aI x2, aI x3] none [] h := by
  refine (s_go mt_X10_isDifferent dX10_isDifferent_100 rfl).trans ?_
  exact q_if mt_X10_isDifferent dX10_isDifferent_101 (fun _ _ _ _ => rfl) rfl
theorem e_X10_isDifferent_104 (sc : SC) (p0 : Nat) (x1 : Int32) (x2 : Int32) (x3 : Int32) (h : AH) : Run sc n_X10_isDifferent 104 [aD p0, aI x1, aI x2, aI x3] none [] h = bF (getF sc h (aD p0) 12 29) (fun z => Run sc n_X10_isDifferent 108 [aD p0, aI x1, aI x2, aI x3] none [z] h) := by
  refine (s_go mt_X10_isDifferent dX10_isDifferent_104 rfl).trans ?_
  exact q_getfield mt_X10_isDifferent dX10_isDifferent_105 rfl
theorem e_X10_isDifferent_119 (sc : SC) (p0 : Nat) (x1 : Int32) (x2 : Int32) (x3 : Int32) (h : AH) : Run sc n_X10_isDifferent 119 [aD p0, aI x1, aI x2, aI x3] none [] h = Run sc n_X10_isDifferent 124 [aD p0, aI x1, aI x2, aI x3] none [aI (nI 1)] h := by
  refine (s_go mt_X10_isDifferent dX10_isDifferent_119 rfl).trans ?_
  refine (s_go mt_X10_isDifferent dX10_isDifferent_120 rfl).trans ?_
  exact rfl
theorem e_X10_isDifferent_123 (sc : SC) (p0 : Nat) (x1 : Int32) (x2 : Int32) (x3 : Int32) (h : AH) : Run sc n_X10_isDifferent 123 [aD p0, aI x1, aI x2, aI x3] none [] h = Run sc n_X10_isDifferent 124 [aD p0, aI x1, aI x2, aI x3] none [aI (nI 0)] h := by
  refine (s_go mt_X10_isDifferent dX10_isDifferent_123 rfl).trans ?_
  exact rfl
theorem e_X10_isDifferent_124 (sc : SC) (p0 : Nat) (x1 : Int32) (x2 : Int32) (x3 : Int32) (y0 : Int32) (h : AH) : Run sc n_X10_isDifferent 124 [aD p0, aI x1, aI x2, aI x3] none [aI y0] h = Run sc n_X10_isDifferent 95 [aD p0, aI x1, aI y0, aI (x3 + nI 1)] none [] h := by
  refine (s_go mt_X10_isDifferent dX10_isDifferent_124 rfl).trans ?_
  refine (s_go mt_X10_isDifferent dX10_isDifferent_125 rfl).trans ?_
  refine (s_go mt_X10_isDifferent dX10_isDifferent_128 rfl).trans ?_
  exact rfl
theorem e_X10_isDifferent_131 (sc : SC) (p0 : Nat) (x1 : Int32) (x2 : Int32) (x3 : Int32) (h : AH) : Run sc n_X10_isDifferent 131 [aD p0, aI x1, aI x2, aI x3] none [] h = Run sc n_X10_isDifferent 133 [aD p0, aI x1, aI x2, aI (nI 0)] none [] h := by
  refine (s_go mt_X10_isDifferent dX10_isDifferent_131 rfl).trans ?_
  refine (s_go mt_X10_isDifferent dX10_isDifferent_132 rfl).trans ?_
  exact rfl
theorem e_X10_isDifferent_133 (sc : SC) (p0 : Nat) (x1 : Int32) (x2 : Int32) (x3 : Int32) (h : AH) : Run sc n_X10_isDifferent 133 [aD p0, aI x1, aI x2, aI x3] none [] h = Run sc n_X10_isDifferent (if (nI 16) ≤ x3 then 173 else 139) [aD p0, aI x1, aI x2, aI x3] none [] h := by
  refine (s_go mt_X10_isDifferent dX10_isDifferent_133 rfl).trans ?_
  refine (s_go mt_X10_isDifferent dX10_isDifferent_134 rfl).trans ?_
  exact q_icmp mt_X10_isDifferent dX10_isDifferent_136 (fun _ _ _ _ => rfl) rfl
theorem e_X10_isDifferent_139 (sc : SC) (p0 : Nat) (x1 : Int32) (x2 : Int32) (x3 : Int32) (h : AH) : Run sc n_X10_isDifferent 139 [aD p0, aI x1, aI x2, aI x3] none [] h = Run sc n_X10_isDifferent (if ¬ x2 = 0 then 161 else 143) [aD p0, aI x1, aI x2, aI x3] none [] h := by
  refine (s_go mt_X10_isDifferent dX10_isDifferent_139 rfl).trans ?_
  exact q_if mt_X10_isDifferent dX10_isDifferent_140 (fun _ _ _ _ => rfl) rfl
theorem e_X10_isDifferent_143 (sc : SC) (p0 : Nat) (x1 : Int32) (x2 : Int32) (x3 : Int32) (h : AH) : Run sc n_X10_isDifferent 143 [aD p0, aI x1, aI x2, aI x3] none [] h = bF (getF sc h (aD p0) 12 28) (fun z => Run sc n_X10_isDifferent 147 [aD p0, aI x1, aI x2, aI x3] none [z] h) := by
  refine (s_go mt_X10_isDifferent dX10_isDifferent_143 rfl).trans ?_
  exact q_getfield mt_X10_isDifferent dX10_isDifferent_144 rfl
theorem e_X10_isDifferent_161 (sc : SC) (p0 : Nat) (x1 : Int32) (x2 : Int32) (x3 : Int32) (h : AH) : Run sc n_X10_isDifferent 161 [aD p0, aI x1, aI x2, aI x3] none [] h = Run sc n_X10_isDifferent 166 [aD p0, aI x1, aI x2, aI x3] none [aI (nI 1)] h := by
  refine (s_go mt_X10_isDifferent dX10_isDifferent_161 rfl).trans ?_
  refine (s_go mt_X10_isDifferent dX10_isDifferent_162 rfl).trans ?_
  exact rfl
theorem e_X10_isDifferent_165 (sc : SC) (p0 : Nat) (x1 : Int32) (x2 : Int32) (x3 : Int32) (h : AH) : Run sc n_X10_isDifferent 165 [aD p0, aI x1, aI x2, aI x3] none [] h = Run sc n_X10_isDifferent 166 [aD p0, aI x1, aI x2, aI x3] none [aI (nI 0)] h := by
  refine (s_go mt_X10_isDifferent dX10_isDifferent_165 rfl).trans ?_
  exact rfl
theorem e_X10_isDifferent_166 (sc : SC) (p0 : Nat) (x1 : Int32) (x2 : Int32) (x3 : Int32) (y0 : Int32) (h : AH) : Run sc n_X10_isDifferent 166 [aD p0, aI x1, aI x2, aI x3] none [aI y0] h = Run sc n_X10_isDifferent 133 [aD p0, aI x1, aI y0, aI (x3 + nI 1)] none [] h := by
  refine (s_go mt_X10_isDifferent dX10_isDifferent_166 rfl).trans ?_
  refine (s_go mt_X10_isDifferent dX10_isDifferent_167 rfl).trans ?_
  refine (s_go mt_X10_isDifferent dX10_isDifferent_170 rfl).trans ?_
  exact rfl
theorem e_X10_isDifferent_173 (sc : SC) (p0 : Nat) (x1 : Int32) (x2 : Int32) (x3 : Int32) (h : AH) : Run sc n_X10_isDifferent 173 [aD p0, aI x1, aI x2, aI x3] none [] h = bI (retK (some FieldType.boolean) x2 = true) (some (.inl (some (aI x2)), h)) := by
  refine (s_go mt_X10_isDifferent dX10_isDifferent_173 rfl).trans ?_
  exact q_iret mt_X10_isDifferent dX10_isDifferent_174
theorem e_X10_isDifferent_5 (sc : SC) (p0 : Nat) (v1 : AV) (v2 : AV) (v3 : AV) (y0 : Int32) (h : AH) : Run sc n_X10_isDifferent 5 [aD p0, v1, v2, v3] none [aI y0] h = Run sc n_X10_isDifferent (if ¬ y0 = 0 then 10 else 8) [aD p0, v1, v2, v3] none [] h := by
  exact q_if mt_X10_isDifferent dX10_isDifferent_5 (fun _ _ _ _ => rfl) rfl
theorem e_X10_isDifferent_14 (sc : SC) (p0 : Nat) (v1 : AV) (v2 : AV) (v3 : AV) (y0 : Int32) (h : AH) : Run sc n_X10_isDifferent 14 [aD p0, v1, v2, v3] none [aI y0] h = Run sc n_X10_isDifferent 17 [aD p0, aI y0, aI (nI 0), v3] none [] h := by
  refine (s_go mt_X10_isDifferent dX10_isDifferent_14 rfl).trans ?_
  refine (s_go mt_X10_isDifferent dX10_isDifferent_15 rfl).trans ?_
  refine (s_go mt_X10_isDifferent dX10_isDifferent_16 rfl).trans ?_
  exact rfl
theorem e_X10_isDifferent_26 (sc : SC) (p0 : Nat) (x1 : Int32) (x2 : Int32) (v3 : AV) (q0 : Nat) (h : AH) : Run sc n_X10_isDifferent 26 [aD p0, aI x1, aI x2, v3] none [aD q0] h = bF (getF sc h (aD p0) 12 19) (fun z => Run sc n_X10_isDifferent 31 [aD p0, aI x1, aI x2, v3] none [z, aI x2, aD q0] h) := by
  refine (s_go mt_X10_isDifferent dX10_isDifferent_26 rfl).trans ?_
  refine (s_go mt_X10_isDifferent dX10_isDifferent_27 rfl).trans ?_
  exact q_getfield mt_X10_isDifferent dX10_isDifferent_28 rfl
theorem e_X10_isDifferent_52 (sc : SC) (p0 : Nat) (x1 : Int32) (x2 : Int32) (v3 : AV) (q0 : Nat) (h : AH) : Run sc n_X10_isDifferent 52 [aD p0, aI x1, aI x2, v3] none [aD q0] h = bF (getF sc h (aD p0) 12 18) (fun z => Run sc n_X10_isDifferent 57 [aD p0, aI x1, aI x2, v3] none [z, aI x2, aD q0] h) := by
  refine (s_go mt_X10_isDifferent dX10_isDifferent_52 rfl).trans ?_
  refine (s_go mt_X10_isDifferent dX10_isDifferent_53 rfl).trans ?_
  exact q_getfield mt_X10_isDifferent dX10_isDifferent_54 rfl
theorem e_X10_isDifferent_74 (sc : SC) (p0 : Nat) (x1 : Int32) (x2 : Int32) (v3 : AV) (y0 : Int32) (h : AH) : Run sc n_X10_isDifferent 74 [aD p0, aI x1, aI x2, v3] none [aI y0] h = Run sc n_X10_isDifferent (if ¬ y0 = 0 then 79 else 77) [aD p0, aI x1, aI x2, v3] none [] h := by
  exact q_if mt_X10_isDifferent dX10_isDifferent_74 (fun _ _ _ _ => rfl) rfl
theorem e_X10_isDifferent_84 (sc : SC) (p0 : Nat) (x1 : Int32) (x2 : Int32) (v3 : AV) (y0 : Int32) (y1 : Int32) (h : AH) : Run sc n_X10_isDifferent 84 [aD p0, aI x1, aI x2, v3] none [aI y1, aI y0] h = Run sc n_X10_isDifferent (if y0 = y1 then 91 else 87) [aD p0, aI x1, aI x2, v3] none [] h := by
  exact q_icmp mt_X10_isDifferent dX10_isDifferent_84 (fun _ _ _ _ => rfl) rfl
theorem e_X10_isDifferent_108 (sc : SC) (p0 : Nat) (x1 : Int32) (x2 : Int32) (x3 : Int32) (q0 : Nat) (h : AH) : Run sc n_X10_isDifferent 108 [aD p0, aI x1, aI x2, aI x3] none [aD q0] h = bO (ldI sc h (fun t => t == 0) (aD q0) x3) (fun z => Run sc n_X10_isDifferent 110 [aD p0, aI x1, aI x2, aI x3] none [aI z] h) := by
  refine (s_go mt_X10_isDifferent dX10_isDifferent_108 rfl).trans ?_
  exact q_iaload mt_X10_isDifferent dX10_isDifferent_109
theorem e_X10_isDifferent_147 (sc : SC) (p0 : Nat) (x1 : Int32) (x2 : Int32) (x3 : Int32) (q0 : Nat) (h : AH) : Run sc n_X10_isDifferent 147 [aD p0, aI x1, aI x2, aI x3] none [aD q0] h = bO (ldI sc h (fun t => t == 0) (aD q0) x3) (fun z => Run sc n_X10_isDifferent 149 [aD p0, aI x1, aI x2, aI x3] none [aI z] h) := by
  refine (s_go mt_X10_isDifferent dX10_isDifferent_147 rfl).trans ?_
  exact q_iaload mt_X10_isDifferent dX10_isDifferent_148
theorem e_X10_isDifferent_31 (sc : SC) (p0 : Nat) (x1 : Int32) (x2 : Int32) (v3 : AV) (q0 : Nat) (y1 : Int32) (q2 : Nat) (h : AH) : Run sc n_X10_isDifferent 31 [aD p0, aI x1, aI x2, v3] none [aD q2, aI y1, aD q0] h = bO (ldI sc h (fun t => t == 0) (aD q2) x2) (fun z => Run sc n_X10_isDifferent 33 [aD p0, aI x1, aI x2, v3] none [aI z, aI y1, aD q0] h) := by
  refine (s_go mt_X10_isDifferent dX10_isDifferent_31 rfl).trans ?_
  exact q_iaload mt_X10_isDifferent dX10_isDifferent_32
theorem e_X10_isDifferent_57 (sc : SC) (p0 : Nat) (x1 : Int32) (x2 : Int32) (v3 : AV) (q0 : Nat) (y1 : Int32) (q2 : Nat) (h : AH) : Run sc n_X10_isDifferent 57 [aD p0, aI x1, aI x2, v3] none [aD q2, aI y1, aD q0] h = bO (ldI sc h (fun t => t == 0) (aD q2) ((nI 8) + x2)) (fun z => Run sc n_X10_isDifferent 62 [aD p0, aI x1, aI x2, v3] none [aI z, aI y1, aD q0] h) := by
  refine (s_go mt_X10_isDifferent dX10_isDifferent_57 rfl).trans ?_
  refine (s_go mt_X10_isDifferent dX10_isDifferent_59 rfl).trans ?_
  refine (s_go mt_X10_isDifferent dX10_isDifferent_60 rfl).trans ?_
  exact q_iaload mt_X10_isDifferent dX10_isDifferent_61
theorem e_X10_isDifferent_110 (sc : SC) (p0 : Nat) (x1 : Int32) (x2 : Int32) (x3 : Int32) (y0 : Int32) (h : AH) : Run sc n_X10_isDifferent 110 [aD p0, aI x1, aI x2, aI x3] none [aI y0] h = bF (getF sc h (aD p0) 12 19) (fun z => Run sc n_X10_isDifferent 114 [aD p0, aI x1, aI x2, aI x3] none [z, aI y0] h) := by
  refine (s_go mt_X10_isDifferent dX10_isDifferent_110 rfl).trans ?_
  exact q_getfield mt_X10_isDifferent dX10_isDifferent_111 rfl
theorem e_X10_isDifferent_149 (sc : SC) (p0 : Nat) (x1 : Int32) (x2 : Int32) (x3 : Int32) (y0 : Int32) (h : AH) : Run sc n_X10_isDifferent 149 [aD p0, aI x1, aI x2, aI x3] none [aI y0] h = bF (getF sc h (aD p0) 12 18) (fun z => Run sc n_X10_isDifferent 153 [aD p0, aI x1, aI x2, aI x3] none [z, aI y0] h) := by
  refine (s_go mt_X10_isDifferent dX10_isDifferent_149 rfl).trans ?_
  exact q_getfield mt_X10_isDifferent dX10_isDifferent_150 rfl
theorem e_X10_isDifferent_33 (sc : SC) (p0 : Nat) (x1 : Int32) (x2 : Int32) (v3 : AV) (q0 : Nat) (y1 : Int32) (y2 : Int32) (h : AH) : Run sc n_X10_isDifferent 33 [aD p0, aI x1, aI x2, v3] none [aI y2, aI y1, aD q0] h = bO (stI h (fun t => t == 0) q0 y1 y2) (fun z => Run sc n_X10_isDifferent 34 [aD p0, aI x1, aI x2, v3] none [] z) := by
  exact q_iastore mt_X10_isDifferent dX10_isDifferent_33
theorem e_X10_isDifferent_62 (sc : SC) (p0 : Nat) (x1 : Int32) (x2 : Int32) (v3 : AV) (q0 : Nat) (y1 : Int32) (y2 : Int32) (h : AH) : Run sc n_X10_isDifferent 62 [aD p0, aI x1, aI x2, v3] none [aI y2, aI y1, aD q0] h = bO (stI h (fun t => t == 0) q0 y1 y2) (fun z => Run sc n_X10_isDifferent 63 [aD p0, aI x1, aI x2, v3] none [] z) := by
  exact q_iastore mt_X10_isDifferent dX10_isDifferent_62
theorem e_X10_isDifferent_114 (sc : SC) (p0 : Nat) (x1 : Int32) (x2 : Int32) (x3 : Int32) (y0 : Int32) (q1 : Nat) (h : AH) : Run sc n_X10_isDifferent 114 [aD p0, aI x1, aI x2, aI x3] none [aD q1, aI y0] h = bO (ldI sc h (fun t => t == 0) (aD q1) x3) (fun z => Run sc n_X10_isDifferent 116 [aD p0, aI x1, aI x2, aI x3] none [aI z, aI y0] h) := by
  refine (s_go mt_X10_isDifferent dX10_isDifferent_114 rfl).trans ?_
  exact q_iaload mt_X10_isDifferent dX10_isDifferent_115
theorem e_X10_isDifferent_153 (sc : SC) (p0 : Nat) (x1 : Int32) (x2 : Int32) (x3 : Int32) (y0 : Int32) (q1 : Nat) (h : AH) : Run sc n_X10_isDifferent 153 [aD p0, aI x1, aI x2, aI x3] none [aD q1, aI y0] h = bO (ldI sc h (fun t => t == 0) (aD q1) ((nI 8) + x3)) (fun z => Run sc n_X10_isDifferent 158 [aD p0, aI x1, aI x2, aI x3] none [aI z, aI y0] h) := by
  refine (s_go mt_X10_isDifferent dX10_isDifferent_153 rfl).trans ?_
  refine (s_go mt_X10_isDifferent dX10_isDifferent_155 rfl).trans ?_
  refine (s_go mt_X10_isDifferent dX10_isDifferent_156 rfl).trans ?_
  exact q_iaload mt_X10_isDifferent dX10_isDifferent_157
theorem e_X10_isDifferent_34 (sc : SC) (p0 : Nat) (x1 : Int32) (x2 : Int32) (v3 : AV) (h : AH) : Run sc n_X10_isDifferent 34 [aD p0, aI x1, aI x2, v3] none [] h = Run sc n_X10_isDifferent 17 [aD p0, aI x1, aI (x2 + nI 1), v3] none [] h := by
  refine (s_go mt_X10_isDifferent dX10_isDifferent_34 rfl).trans ?_
  refine (s_go mt_X10_isDifferent dX10_isDifferent_37 rfl).trans ?_
  exact rfl
theorem e_X10_isDifferent_63 (sc : SC) (p0 : Nat) (x1 : Int32) (x2 : Int32) (v3 : AV) (h : AH) : Run sc n_X10_isDifferent 63 [aD p0, aI x1, aI x2, v3] none [] h = Run sc n_X10_isDifferent 42 [aD p0, aI x1, aI (x2 + nI 1), v3] none [] h := by
  refine (s_go mt_X10_isDifferent dX10_isDifferent_63 rfl).trans ?_
  refine (s_go mt_X10_isDifferent dX10_isDifferent_66 rfl).trans ?_
  exact rfl
theorem e_X10_isDifferent_116 (sc : SC) (p0 : Nat) (x1 : Int32) (x2 : Int32) (x3 : Int32) (y0 : Int32) (y1 : Int32) (h : AH) : Run sc n_X10_isDifferent 116 [aD p0, aI x1, aI x2, aI x3] none [aI y1, aI y0] h = Run sc n_X10_isDifferent (if y0 = y1 then 123 else 119) [aD p0, aI x1, aI x2, aI x3] none [] h := by
  exact q_icmp mt_X10_isDifferent dX10_isDifferent_116 (fun _ _ _ _ => rfl) rfl
theorem e_X10_isDifferent_158 (sc : SC) (p0 : Nat) (x1 : Int32) (x2 : Int32) (x3 : Int32) (y0 : Int32) (y1 : Int32) (h : AH) : Run sc n_X10_isDifferent 158 [aD p0, aI x1, aI x2, aI x3] none [aI y1, aI y0] h = Run sc n_X10_isDifferent (if y0 = y1 then 165 else 161) [aD p0, aI x1, aI x2, aI x3] none [] h := by
  exact q_icmp mt_X10_isDifferent dX10_isDifferent_158 (fun _ _ _ _ => rfl) rfl
/-! BranchSlotFillerModel.differences(II)I -/
theorem e_X10_differences_0 (sc : SC) (p0 : Nat) (x1 : Int32) (x2 : Int32) (v3 : AV) (v4 : AV) (h : AH) : Run sc n_X10_differences 0 [aD p0, aI x1, aI x2, v3, v4] none [] h = bO (putF h p0 12 0 0 (aI (nI 0))) (fun z => Run sc n_X10_differences 5 [aD p0, aI x1, aI x2, v3, v4] none [] z) := by
  refine (s_go mt_X10_differences dX10_differences_0 rfl).trans ?_
  refine (s_go mt_X10_differences dX10_differences_1 rfl).trans ?_
  exact q_putfield mt_X10_differences dX10_differences_2 rfl rfl rfl rfl
theorem e_X10_differences_15 (sc : SC) (p0 : Nat) (x1 : Int32) (x2 : Int32) (v3 : AV) (v4 : AV) (h : AH) : Run sc n_X10_differences 15 [aD p0, aI x1, aI x2, v3, v4] none [] h = bI (rOK sc h (aD p0) 12 = true) (bC (Call sc n_X10_fail [aD p0, aI (nI 1)] h) (fun v z => Run sc n_X10_differences 20 [aD p0, aI x1, aI x2, v3, v4] none (v.toList ++ []) z) (fun E z => some (.inr E, z))) := by
  refine (s_go mt_X10_differences dX10_differences_15 rfl).trans ?_
  refine (s_go mt_X10_differences dX10_differences_16 rfl).trans ?_
  exact q_cV mt_X10_differences dX10_differences_17 rfl mt_X10_fail rfl rfl rfl
theorem e_X10_differences_21 (sc : SC) (p0 : Nat) (x1 : Int32) (x2 : Int32) (v3 : AV) (v4 : AV) (h : AH) : Run sc n_X10_differences 21 [aD p0, aI x1, aI x2, v3, v4] none [] h = bO (putF h p0 12 27 0 (aI x1)) (fun z => Run sc n_X10_differences 26 [aD p0, aI x1, aI x2, v3, v4] none [] z) := by
  refine (s_go mt_X10_differences dX10_differences_21 rfl).trans ?_
  refine (s_go mt_X10_differences dX10_differences_22 rfl).trans ?_
  exact q_putfield mt_X10_differences dX10_differences_23 rfl rfl rfl rfl
theorem e_X10_differences_31 (sc : SC) (p0 : Nat) (x1 : Int32) (x2 : Int32) (x3 : Int32) (x4 : Int32) (h : AH) : Run sc n_X10_differences 31 [aD p0, aI x1, aI x2, aI x3, aI x4] none [] h = Run sc n_X10_differences (if x2 ≤ x4 then 62 else 37) [aD p0, aI x1, aI x2, aI x3, aI x4] none [] h := by
  refine (s_go mt_X10_differences dX10_differences_31 rfl).trans ?_
  refine (s_go mt_X10_differences dX10_differences_33 rfl).trans ?_
  exact q_icmp mt_X10_differences dX10_differences_34 (fun _ _ _ _ => rfl) rfl
theorem e_X10_differences_37 (sc : SC) (p0 : Nat) (x1 : Int32) (x2 : Int32) (x3 : Int32) (x4 : Int32) (h : AH) : Run sc n_X10_differences 37 [aD p0, aI x1, aI x2, aI x3, aI x4] none [] h = bI (rOK sc h (aD p0) 12 = true) (bC (Call sc n_X10_draw [aD p0] h) (fun v z => Run sc n_X10_differences 41 [aD p0, aI x1, aI x2, aI x3, aI x4] none (v.toList ++ []) z) (fun E z => some (.inr E, z))) := by
  refine (s_go mt_X10_differences dX10_differences_37 rfl).trans ?_
  exact q_cV mt_X10_differences dX10_differences_38 rfl mt_X10_draw rfl rfl rfl
theorem e_X10_differences_49 (sc : SC) (p0 : Nat) (x1 : Int32) (x2 : Int32) (x3 : Int32) (x4 : Int32) (y0 : Int32) (h : AH) : Run sc n_X10_differences 49 [aD p0, aI x1, aI x2, aI x3, aI x4] none [aI y0] h = Run sc n_X10_differences 54 [aD p0, aI x1, aI x2, aI x3, aI x4] none [aI (nI 1), aI y0] h := by
  refine (s_go mt_X10_differences dX10_differences_49 rfl).trans ?_
  refine (s_go mt_X10_differences dX10_differences_50 rfl).trans ?_
  exact rfl
theorem e_X10_differences_53 (sc : SC) (p0 : Nat) (x1 : Int32) (x2 : Int32) (x3 : Int32) (x4 : Int32) (y0 : Int32) (h : AH) : Run sc n_X10_differences 53 [aD p0, aI x1, aI x2, aI x3, aI x4] none [aI y0] h = Run sc n_X10_differences 54 [aD p0, aI x1, aI x2, aI x3, aI x4] none [aI (nI 0), aI y0] h := by
  refine (s_go mt_X10_differences dX10_differences_53 rfl).trans ?_
  exact rfl
theorem e_X10_differences_54 (sc : SC) (p0 : Nat) (x1 : Int32) (x2 : Int32) (x3 : Int32) (x4 : Int32) (y0 : Int32) (y1 : Int32) (h : AH) : Run sc n_X10_differences 54 [aD p0, aI x1, aI x2, aI x3, aI x4] none [aI y1, aI y0] h = Run sc n_X10_differences 31 [aD p0, aI x1, aI x2, aI (y0 + y1), aI (x4 + nI 1)] none [] h := by
  refine (s_go mt_X10_differences dX10_differences_54 rfl).trans ?_
  refine (s_go mt_X10_differences dX10_differences_55 rfl).trans ?_
  refine (s_go mt_X10_differences dX10_differences_56 rfl).trans ?_
  refine (s_go mt_X10_differences dX10_differences_59 rfl).trans ?_
  exact rfl
theorem e_X10_differences_62 (sc : SC) (p0 : Nat) (x1 : Int32) (x2 : Int32) (x3 : Int32) (x4 : Int32) (h : AH) : Run sc n_X10_differences 62 [aD p0, aI x1, aI x2, aI x3, aI x4] none [] h = some (.inl (some (aI x3)), h) := by
  refine (s_go mt_X10_differences dX10_differences_62 rfl).trans ?_
  exact q_ret (c := (some (aI x3), h)) mt_X10_differences dX10_differences_63 rfl
theorem e_X10_differences_5 (sc : SC) (p0 : Nat) (x1 : Int32) (x2 : Int32) (v3 : AV) (v4 : AV) (h : AH) : Run sc n_X10_differences 5 [aD p0, aI x1, aI x2, v3, v4] none [] h = bC (Call sc n_X10_isIn [aI x2, aI (nI 1), aI (nI 50)] h) (fun v z => Run sc n_X10_differences 12 [aD p0, aI x1, aI x2, v3, v4] none (v.toList ++ []) z) (fun E z => some (.inr E, z)) := by
  refine (s_go mt_X10_differences dX10_differences_5 rfl).trans ?_
  refine (s_go mt_X10_differences dX10_differences_6 rfl).trans ?_
  refine (s_go mt_X10_differences dX10_differences_7 rfl).trans ?_
  exact q_cS mt_X10_differences dX10_differences_9 rfl mt_X10_isIn rfl rfl
theorem e_X10_differences_20 (sc : SC) (p0 : Nat) (x1 : Int32) (x2 : Int32) (v3 : AV) (v4 : AV) (y0 : Int32) (h : AH) : Run sc n_X10_differences 20 [aD p0, aI x1, aI x2, v3, v4] none [aI y0] h = some (.inl (some (aI y0)), h) := by
  exact q_ret (c := (some (aI y0), h)) mt_X10_differences dX10_differences_20 rfl
theorem e_X10_differences_26 (sc : SC) (p0 : Nat) (x1 : Int32) (x2 : Int32) (v3 : AV) (v4 : AV) (h : AH) : Run sc n_X10_differences 26 [aD p0, aI x1, aI x2, v3, v4] none [] h = Run sc n_X10_differences 31 [aD p0, aI x1, aI x2, aI (nI 0), aI (nI 0)] none [] h := by
  refine (s_go mt_X10_differences dX10_differences_26 rfl).trans ?_
  refine (s_go mt_X10_differences dX10_differences_27 rfl).trans ?_
  refine (s_go mt_X10_differences dX10_differences_28 rfl).trans ?_
  refine (s_go mt_X10_differences dX10_differences_29 rfl).trans ?_
  exact rfl
theorem e_X10_differences_41 (sc : SC) (p0 : Nat) (x1 : Int32) (x2 : Int32) (x3 : Int32) (x4 : Int32) (h : AH) : Run sc n_X10_differences 41 [aD p0, aI x1, aI x2, aI x3, aI x4] none [] h = bI (rOK sc h (aD p0) 12 = true) (bC (Call sc n_X10_isDifferent [aD p0] h) (fun v z => Run sc n_X10_differences 46 [aD p0, aI x1, aI x2, aI x3, aI x4] none (v.toList ++ [aI x3]) z) (fun E z => some (.inr E, z))) := by
  refine (s_go mt_X10_differences dX10_differences_41 rfl).trans ?_
  refine (s_go mt_X10_differences dX10_differences_42 rfl).trans ?_
  exact q_cV mt_X10_differences dX10_differences_43 rfl mt_X10_isDifferent rfl rfl rfl
theorem e_X10_differences_12 (sc : SC) (p0 : Nat) (x1 : Int32) (x2 : Int32) (v3 : AV) (v4 : AV) (y0 : Int32) (h : AH) : Run sc n_X10_differences 12 [aD p0, aI x1, aI x2, v3, v4] none [aI y0] h = Run sc n_X10_differences (if ¬ y0 = 0 then 21 else 15) [aD p0, aI x1, aI x2, v3, v4] none [] h := by
  exact q_if mt_X10_differences dX10_differences_12 (fun _ _ _ _ => rfl) rfl
theorem e_X10_differences_46 (sc : SC) (p0 : Nat) (x1 : Int32) (x2 : Int32) (x3 : Int32) (x4 : Int32) (y0 : Int32) (y1 : Int32) (h : AH) : Run sc n_X10_differences 46 [aD p0, aI x1, aI x2, aI x3, aI x4] none [aI y1, aI y0] h = Run sc n_X10_differences (if y1 = 0 then 53 else 49) [aD p0, aI x1, aI x2, aI x3, aI x4] none [aI y0] h := by
  exact q_if mt_X10_differences dX10_differences_46 (fun _ _ _ _ => rfl) rfl
/-! BranchSlotFillerModel.meanSteps(II)D -/
theorem e_X10_meanSteps_0 (sc : SC) (p0 : Nat) (x1 : Int32) (x2 : Int32) (v3 : AV) (v4 : AV) (h : AH) : Run sc n_X10_meanSteps 0 [aD p0, aI x1, aI x2, v3, v4] none [] h = bO (putF h p0 12 0 0 (aI (nI 0))) (fun z => Run sc n_X10_meanSteps 5 [aD p0, aI x1, aI x2, v3, v4] none [] z) := by
  refine (s_go mt_X10_meanSteps dX10_meanSteps_0 rfl).trans ?_
  refine (s_go mt_X10_meanSteps dX10_meanSteps_1 rfl).trans ?_
  exact q_putfield mt_X10_meanSteps dX10_meanSteps_2 rfl rfl rfl rfl
theorem e_X10_meanSteps_15 (sc : SC) (p0 : Nat) (x1 : Int32) (x2 : Int32) (v3 : AV) (v4 : AV) (h : AH) : Run sc n_X10_meanSteps 15 [aD p0, aI x1, aI x2, v3, v4] none [] h = bI (rOK sc h (aD p0) 12 = true) (bC (Call sc n_X10_fail [aD p0, aI (nI 1)] h) (fun v z => Run sc n_X10_meanSteps 20 [aD p0, aI x1, aI x2, v3, v4] none (v.toList ++ []) z) (fun E z => some (.inr E, z))) := by
  refine (s_go mt_X10_meanSteps dX10_meanSteps_15 rfl).trans ?_
  refine (s_go mt_X10_meanSteps dX10_meanSteps_16 rfl).trans ?_
  exact q_cV mt_X10_meanSteps dX10_meanSteps_17 rfl mt_X10_fail rfl rfl rfl
theorem e_X10_meanSteps_22 (sc : SC) (p0 : Nat) (x1 : Int32) (x2 : Int32) (v3 : AV) (v4 : AV) (h : AH) : Run sc n_X10_meanSteps 22 [aD p0, aI x1, aI x2, v3, v4] none [] h = bO (putF h p0 12 27 0 (aI x1)) (fun z => Run sc n_X10_meanSteps 27 [aD p0, aI x1, aI x2, v3, v4] none [] z) := by
  refine (s_go mt_X10_meanSteps dX10_meanSteps_22 rfl).trans ?_
  refine (s_go mt_X10_meanSteps dX10_meanSteps_23 rfl).trans ?_
  exact q_putfield mt_X10_meanSteps dX10_meanSteps_24 rfl rfl rfl rfl
theorem e_X10_meanSteps_32 (sc : SC) (p0 : Nat) (x1 : Int32) (x2 : Int32) (x3 : Int32) (x4 : Int32) (h : AH) : Run sc n_X10_meanSteps 32 [aD p0, aI x1, aI x2, aI x3, aI x4] none [] h = Run sc n_X10_meanSteps (if x2 ≤ x4 then 69 else 38) [aD p0, aI x1, aI x2, aI x3, aI x4] none [] h := by
  refine (s_go mt_X10_meanSteps dX10_meanSteps_32 rfl).trans ?_
  refine (s_go mt_X10_meanSteps dX10_meanSteps_34 rfl).trans ?_
  exact q_icmp mt_X10_meanSteps dX10_meanSteps_35 (fun _ _ _ _ => rfl) rfl
theorem e_X10_meanSteps_38 (sc : SC) (p0 : Nat) (x1 : Int32) (x2 : Int32) (x3 : Int32) (x4 : Int32) (h : AH) : Run sc n_X10_meanSteps 38 [aD p0, aI x1, aI x2, aI x3, aI x4] none [] h = bI (rOK sc h (aD p0) 12 = true) (bC (Call sc n_X10_draw [aD p0] h) (fun v z => Run sc n_X10_meanSteps 42 [aD p0, aI x1, aI x2, aI x3, aI x4] none (v.toList ++ []) z) (fun E z => some (.inr E, z))) := by
  refine (s_go mt_X10_meanSteps dX10_meanSteps_38 rfl).trans ?_
  exact q_cV mt_X10_meanSteps dX10_meanSteps_39 rfl mt_X10_draw rfl rfl rfl
theorem e_X10_meanSteps_51 (sc : SC) (p0 : Nat) (x1 : Int32) (x2 : Int32) (x3 : Int32) (x4 : Int32) (y0 : Int32) (h : AH) : Run sc n_X10_meanSteps 51 [aD p0, aI x1, aI x2, aI x3, aI x4] none [aI y0] h = bF (getF sc h (aD p0) 12 21) (fun z => Run sc n_X10_meanSteps 55 [aD p0, aI x1, aI x2, aI x3, aI x4] none [z, aI y0] h) := by
  refine (s_go mt_X10_meanSteps dX10_meanSteps_51 rfl).trans ?_
  exact q_getfield mt_X10_meanSteps dX10_meanSteps_52 rfl
theorem e_X10_meanSteps_58 (sc : SC) (p0 : Nat) (x1 : Int32) (x2 : Int32) (x3 : Int32) (x4 : Int32) (y0 : Int32) (h : AH) : Run sc n_X10_meanSteps 58 [aD p0, aI x1, aI x2, aI x3, aI x4] none [aI y0] h = Run sc n_X10_meanSteps 61 [aD p0, aI x1, aI x2, aI x3, aI x4] none [aI (nI 300), aI y0] h := by
  refine (s_go mt_X10_meanSteps dX10_meanSteps_58 rfl).trans ?_
  exact rfl
theorem e_X10_meanSteps_61 (sc : SC) (p0 : Nat) (x1 : Int32) (x2 : Int32) (x3 : Int32) (x4 : Int32) (y0 : Int32) (y1 : Int32) (h : AH) : Run sc n_X10_meanSteps 61 [aD p0, aI x1, aI x2, aI x3, aI x4] none [aI y1, aI y0] h = Run sc n_X10_meanSteps 32 [aD p0, aI x1, aI x2, aI (y0 + y1), aI (x4 + nI 1)] none [] h := by
  refine (s_go mt_X10_meanSteps dX10_meanSteps_61 rfl).trans ?_
  refine (s_go mt_X10_meanSteps dX10_meanSteps_62 rfl).trans ?_
  refine (s_go mt_X10_meanSteps dX10_meanSteps_63 rfl).trans ?_
  refine (s_go mt_X10_meanSteps dX10_meanSteps_66 rfl).trans ?_
  exact rfl
theorem e_X10_meanSteps_69 (sc : SC) (p0 : Nat) (x1 : Int32) (x2 : Int32) (x3 : Int32) (x4 : Int32) (h : AH) : Run sc n_X10_meanSteps 69 [aD p0, aI x1, aI x2, aI x3, aI x4] none [] h = bI (FP.ddiv (FP.i2d (x3)) (FP.i2d (x2)) &&& 0x7fffffffffffffff ≤ 0x7ff0000000000000) (Run sc n_X10_meanSteps 74 [aD p0, aI x1, aI x2, aI x3, aI x4] none [aE (FP.ddiv (FP.i2d (x3)) (FP.i2d (x2)))] h) := by
  refine (s_go mt_X10_meanSteps dX10_meanSteps_69 rfl).trans ?_
  refine (s_go mt_X10_meanSteps dX10_meanSteps_70 rfl).trans ?_
  refine (s_go mt_X10_meanSteps dX10_meanSteps_71 rfl).trans ?_
  refine (s_go mt_X10_meanSteps dX10_meanSteps_72 rfl).trans ?_
  exact q_ddiv mt_X10_meanSteps dX10_meanSteps_73
theorem e_X10_meanSteps_5 (sc : SC) (p0 : Nat) (x1 : Int32) (x2 : Int32) (v3 : AV) (v4 : AV) (h : AH) : Run sc n_X10_meanSteps 5 [aD p0, aI x1, aI x2, v3, v4] none [] h = bC (Call sc n_X10_isIn [aI x2, aI (nI 1), aI (nI 50)] h) (fun v z => Run sc n_X10_meanSteps 12 [aD p0, aI x1, aI x2, v3, v4] none (v.toList ++ []) z) (fun E z => some (.inr E, z)) := by
  refine (s_go mt_X10_meanSteps dX10_meanSteps_5 rfl).trans ?_
  refine (s_go mt_X10_meanSteps dX10_meanSteps_6 rfl).trans ?_
  refine (s_go mt_X10_meanSteps dX10_meanSteps_7 rfl).trans ?_
  exact q_cS mt_X10_meanSteps dX10_meanSteps_9 rfl mt_X10_isIn rfl rfl
theorem e_X10_meanSteps_20 (sc : SC) (p0 : Nat) (x1 : Int32) (x2 : Int32) (v3 : AV) (v4 : AV) (y0 : Int32) (h : AH) : Run sc n_X10_meanSteps 20 [aD p0, aI x1, aI x2, v3, v4] none [aI y0] h = some (.inl (some (aE (FP.i2d (y0)))), h) := by
  refine (s_go mt_X10_meanSteps dX10_meanSteps_20 rfl).trans ?_
  exact q_ret (c := (some (aE (FP.i2d (y0))), h)) mt_X10_meanSteps dX10_meanSteps_21 rfl
theorem e_X10_meanSteps_27 (sc : SC) (p0 : Nat) (x1 : Int32) (x2 : Int32) (v3 : AV) (v4 : AV) (h : AH) : Run sc n_X10_meanSteps 27 [aD p0, aI x1, aI x2, v3, v4] none [] h = Run sc n_X10_meanSteps 32 [aD p0, aI x1, aI x2, aI (nI 0), aI (nI 0)] none [] h := by
  refine (s_go mt_X10_meanSteps dX10_meanSteps_27 rfl).trans ?_
  refine (s_go mt_X10_meanSteps dX10_meanSteps_28 rfl).trans ?_
  refine (s_go mt_X10_meanSteps dX10_meanSteps_29 rfl).trans ?_
  refine (s_go mt_X10_meanSteps dX10_meanSteps_30 rfl).trans ?_
  exact rfl
theorem e_X10_meanSteps_42 (sc : SC) (p0 : Nat) (x1 : Int32) (x2 : Int32) (x3 : Int32) (x4 : Int32) (h : AH) : Run sc n_X10_meanSteps 42 [aD p0, aI x1, aI x2, aI x3, aI x4] none [] h = bI (rOK sc h (aD p0) 12 = true) (bC (Call sc n_X10_runsDrawn [aD p0, aI (nI 1)] h) (fun v z => Run sc n_X10_meanSteps 48 [aD p0, aI x1, aI x2, aI x3, aI x4] none (v.toList ++ [aI x3]) z) (fun E z => some (.inr E, z))) := by
  refine (s_go mt_X10_meanSteps dX10_meanSteps_42 rfl).trans ?_
  refine (s_go mt_X10_meanSteps dX10_meanSteps_43 rfl).trans ?_
  refine (s_go mt_X10_meanSteps dX10_meanSteps_44 rfl).trans ?_
  exact q_cV mt_X10_meanSteps dX10_meanSteps_45 rfl mt_X10_runsDrawn rfl rfl rfl
theorem e_X10_meanSteps_55 (sc : SC) (p0 : Nat) (x1 : Int32) (x2 : Int32) (x3 : Int32) (x4 : Int32) (y0 : Int32) (y1 : Int32) (h : AH) : Run sc n_X10_meanSteps 55 [aD p0, aI x1, aI x2, aI x3, aI x4] none [aI y1, aI y0] h = Run sc n_X10_meanSteps 61 [aD p0, aI x1, aI x2, aI x3, aI x4] none [aI y1, aI y0] h := by
  refine (s_go mt_X10_meanSteps dX10_meanSteps_55 rfl).trans ?_
  exact rfl
theorem e_X10_meanSteps_74 (sc : SC) (p0 : Nat) (x1 : Int32) (x2 : Int32) (x3 : Int32) (x4 : Int32) (e0 : UInt64) (h : AH) : Run sc n_X10_meanSteps 74 [aD p0, aI x1, aI x2, aI x3, aI x4] none [aE e0] h = some (.inl (some (aE e0)), h) := by
  exact q_ret (c := (some (aE e0), h)) mt_X10_meanSteps dX10_meanSteps_74 rfl
theorem e_X10_meanSteps_12 (sc : SC) (p0 : Nat) (x1 : Int32) (x2 : Int32) (v3 : AV) (v4 : AV) (y0 : Int32) (h : AH) : Run sc n_X10_meanSteps 12 [aD p0, aI x1, aI x2, v3, v4] none [aI y0] h = Run sc n_X10_meanSteps (if ¬ y0 = 0 then 22 else 15) [aD p0, aI x1, aI x2, v3, v4] none [] h := by
  exact q_if mt_X10_meanSteps dX10_meanSteps_12 (fun _ _ _ _ => rfl) rfl
theorem e_X10_meanSteps_48 (sc : SC) (p0 : Nat) (x1 : Int32) (x2 : Int32) (x3 : Int32) (x4 : Int32) (y0 : Int32) (y1 : Int32) (h : AH) : Run sc n_X10_meanSteps 48 [aD p0, aI x1, aI x2, aI x3, aI x4] none [aI y1, aI y0] h = Run sc n_X10_meanSteps (if y1 = 0 then 58 else 51) [aD p0, aI x1, aI x2, aI x3, aI x4] none [aI y0] h := by
  exact q_if mt_X10_meanSteps dX10_meanSteps_48 (fun _ _ _ _ => rfl) rfl
/-! BranchSlotFillerModel.filledShare()F -/
theorem e_X10_filledShare_0 (sc : SC) (p0 : Nat) (v1 : AV) (v2 : AV) (v3 : AV) (h : AH) : Run sc n_X10_filledShare 0 [aD p0, v1, v2, v3] none [] h = bO (putF h p0 12 0 0 (aI (nI 0))) (fun z => Run sc n_X10_filledShare 5 [aD p0, v1, v2, v3] none [] z) := by
  refine (s_go mt_X10_filledShare dX10_filledShare_0 rfl).trans ?_
  refine (s_go mt_X10_filledShare dX10_filledShare_1 rfl).trans ?_
  exact q_putfield mt_X10_filledShare dX10_filledShare_2 rfl rfl rfl rfl
theorem e_X10_filledShare_11 (sc : SC) (p0 : Nat) (x1 : Int32) (x2 : Int32) (x3 : Int32) (h : AH) : Run sc n_X10_filledShare 11 [aD p0, aI x1, aI x2, aI x3] none [] h = bI (rOK sc h (aD p0) 12 = true) (bC (Call sc n_X10_entryMany [aD p0] h) (fun v z => Run sc n_X10_filledShare 16 [aD p0, aI x1, aI x2, aI x3] none (v.toList ++ [aI x3]) z) (fun E z => some (.inr E, z))) := by
  refine (s_go mt_X10_filledShare dX10_filledShare_11 rfl).trans ?_
  refine (s_go mt_X10_filledShare dX10_filledShare_12 rfl).trans ?_
  exact q_cV mt_X10_filledShare dX10_filledShare_13 rfl mt_X10_entryMany rfl rfl rfl
theorem e_X10_filledShare_19 (sc : SC) (p0 : Nat) (x1 : Int32) (x2 : Int32) (x3 : Int32) (h : AH) : Run sc n_X10_filledShare 19 [aD p0, aI x1, aI x2, aI x3] none [] h = bI (rOK sc h (aD p0) 12 = true) (bC (Call sc n_X10_at [aD p0, aI x3, aI (nI 0)] h) (fun v z => Run sc n_X10_filledShare 26 [aD p0, aI x1, aI x2, aI x3] none (v.toList ++ [aI x1]) z) (fun E z => some (.inr E, z))) := by
  refine (s_go mt_X10_filledShare dX10_filledShare_19 rfl).trans ?_
  refine (s_go mt_X10_filledShare dX10_filledShare_20 rfl).trans ?_
  refine (s_go mt_X10_filledShare dX10_filledShare_21 rfl).trans ?_
  refine (s_go mt_X10_filledShare dX10_filledShare_22 rfl).trans ?_
  exact q_cV mt_X10_filledShare dX10_filledShare_23 rfl mt_X10_at rfl rfl rfl
theorem e_X10_filledShare_32 (sc : SC) (p0 : Nat) (x1 : Int32) (x2 : Int32) (x3 : Int32) (y0 : Int32) (h : AH) : Run sc n_X10_filledShare 32 [aD p0, aI x1, aI x2, aI x3] none [aI y0] h = Run sc n_X10_filledShare 37 [aD p0, aI x1, aI x2, aI x3] none [aI (nI 1), aI y0] h := by
  refine (s_go mt_X10_filledShare dX10_filledShare_32 rfl).trans ?_
  refine (s_go mt_X10_filledShare dX10_filledShare_33 rfl).trans ?_
  exact rfl
theorem e_X10_filledShare_36 (sc : SC) (p0 : Nat) (x1 : Int32) (x2 : Int32) (x3 : Int32) (y0 : Int32) (h : AH) : Run sc n_X10_filledShare 36 [aD p0, aI x1, aI x2, aI x3] none [aI y0] h = Run sc n_X10_filledShare 37 [aD p0, aI x1, aI x2, aI x3] none [aI (nI 0), aI y0] h := by
  refine (s_go mt_X10_filledShare dX10_filledShare_36 rfl).trans ?_
  exact rfl
theorem e_X10_filledShare_37 (sc : SC) (p0 : Nat) (x1 : Int32) (x2 : Int32) (x3 : Int32) (y0 : Int32) (y1 : Int32) (h : AH) : Run sc n_X10_filledShare 37 [aD p0, aI x1, aI x2, aI x3] none [aI y1, aI y0] h = bI (rOK sc h (aD p0) 12 = true) (bC (Call sc n_X10_isSlot [aD p0, aI x3] h) (fun v z => Run sc n_X10_filledShare 45 [aD p0, aI (y0 + y1), aI x2, aI x3] none (v.toList ++ [aI x2]) z) (fun E z => some (.inr E, z))) := by
  refine (s_go mt_X10_filledShare dX10_filledShare_37 rfl).trans ?_
  refine (s_go mt_X10_filledShare dX10_filledShare_38 rfl).trans ?_
  refine (s_go mt_X10_filledShare dX10_filledShare_39 rfl).trans ?_
  refine (s_go mt_X10_filledShare dX10_filledShare_40 rfl).trans ?_
  refine (s_go mt_X10_filledShare dX10_filledShare_41 rfl).trans ?_
  exact q_cV mt_X10_filledShare dX10_filledShare_42 rfl mt_X10_isSlot rfl rfl rfl
theorem e_X10_filledShare_48 (sc : SC) (p0 : Nat) (x1 : Int32) (x2 : Int32) (x3 : Int32) (y0 : Int32) (h : AH) : Run sc n_X10_filledShare 48 [aD p0, aI x1, aI x2, aI x3] none [aI y0] h = bI (rOK sc h (aD p0) 12 = true) (bC (Call sc n_X10_at [aD p0, aI x3, aI (nI 0)] h) (fun v z => Run sc n_X10_filledShare 54 [aD p0, aI x1, aI x2, aI x3] none (v.toList ++ [aI y0]) z) (fun E z => some (.inr E, z))) := by
  refine (s_go mt_X10_filledShare dX10_filledShare_48 rfl).trans ?_
  refine (s_go mt_X10_filledShare dX10_filledShare_49 rfl).trans ?_
  refine (s_go mt_X10_filledShare dX10_filledShare_50 rfl).trans ?_
  exact q_cV mt_X10_filledShare dX10_filledShare_51 rfl mt_X10_at rfl rfl rfl
theorem e_X10_filledShare_57 (sc : SC) (p0 : Nat) (x1 : Int32) (x2 : Int32) (x3 : Int32) (y0 : Int32) (h : AH) : Run sc n_X10_filledShare 57 [aD p0, aI x1, aI x2, aI x3] none [aI y0] h = Run sc n_X10_filledShare 62 [aD p0, aI x1, aI x2, aI x3] none [aI (nI 1), aI y0] h := by
  refine (s_go mt_X10_filledShare dX10_filledShare_57 rfl).trans ?_
  refine (s_go mt_X10_filledShare dX10_filledShare_58 rfl).trans ?_
  exact rfl
theorem e_X10_filledShare_61 (sc : SC) (p0 : Nat) (x1 : Int32) (x2 : Int32) (x3 : Int32) (y0 : Int32) (h : AH) : Run sc n_X10_filledShare 61 [aD p0, aI x1, aI x2, aI x3] none [aI y0] h = Run sc n_X10_filledShare 62 [aD p0, aI x1, aI x2, aI x3] none [aI (nI 0), aI y0] h := by
  refine (s_go mt_X10_filledShare dX10_filledShare_61 rfl).trans ?_
  exact rfl
theorem e_X10_filledShare_62 (sc : SC) (p0 : Nat) (x1 : Int32) (x2 : Int32) (x3 : Int32) (y0 : Int32) (y1 : Int32) (h : AH) : Run sc n_X10_filledShare 62 [aD p0, aI x1, aI x2, aI x3] none [aI y1, aI y0] h = Run sc n_X10_filledShare 11 [aD p0, aI x1, aI (y0 + y1), aI (x3 + nI 1)] none [] h := by
  refine (s_go mt_X10_filledShare dX10_filledShare_62 rfl).trans ?_
  refine (s_go mt_X10_filledShare dX10_filledShare_63 rfl).trans ?_
  refine (s_go mt_X10_filledShare dX10_filledShare_64 rfl).trans ?_
  refine (s_go mt_X10_filledShare dX10_filledShare_67 rfl).trans ?_
  exact rfl
theorem e_X10_filledShare_70 (sc : SC) (p0 : Nat) (x1 : Int32) (x2 : Int32) (x3 : Int32) (h : AH) : Run sc n_X10_filledShare 70 [aD p0, aI x1, aI x2, aI x3] none [] h = Run sc n_X10_filledShare (if ¬ x1 = 0 then 83 else 74) [aD p0, aI x1, aI x2, aI x3] none [] h := by
  refine (s_go mt_X10_filledShare dX10_filledShare_70 rfl).trans ?_
  exact q_if mt_X10_filledShare dX10_filledShare_71 (fun _ _ _ _ => rfl) rfl
theorem e_X10_filledShare_74 (sc : SC) (p0 : Nat) (x1 : Int32) (x2 : Int32) (x3 : Int32) (h : AH) : Run sc n_X10_filledShare 74 [aD p0, aI x1, aI x2, aI x3] none [] h = bI (rOK sc h (aD p0) 12 = true) (bC (Call sc n_X10_fail [aD p0, aI (nI 1)] h) (fun v z => Run sc n_X10_filledShare 79 [aD p0, aI x1, aI x2, aI x3] none (v.toList ++ []) z) (fun E z => some (.inr E, z))) := by
  refine (s_go mt_X10_filledShare dX10_filledShare_74 rfl).trans ?_
  refine (s_go mt_X10_filledShare dX10_filledShare_75 rfl).trans ?_
  exact q_cV mt_X10_filledShare dX10_filledShare_76 rfl mt_X10_fail rfl rfl rfl
theorem e_X10_filledShare_83 (sc : SC) (p0 : Nat) (x1 : Int32) (x2 : Int32) (x3 : Int32) (h : AH) : Run sc n_X10_filledShare 83 [aD p0, aI x1, aI x2, aI x3] none [] h = bI (FP.fdiv (FP.i2f (x2)) (FP.i2f (x1)) &&& 0x7fffffff ≤ 0x7f800000) (Run sc n_X10_filledShare 88 [aD p0, aI x1, aI x2, aI x3] none [aF (FP.fdiv (FP.i2f (x2)) (FP.i2f (x1)))] h) := by
  refine (s_go mt_X10_filledShare dX10_filledShare_83 rfl).trans ?_
  refine (s_go mt_X10_filledShare dX10_filledShare_84 rfl).trans ?_
  refine (s_go mt_X10_filledShare dX10_filledShare_85 rfl).trans ?_
  refine (s_go mt_X10_filledShare dX10_filledShare_86 rfl).trans ?_
  exact q_fdiv mt_X10_filledShare dX10_filledShare_87
theorem e_X10_filledShare_88 (sc : SC) (p0 : Nat) (x1 : Int32) (x2 : Int32) (x3 : Int32) (g0 : UInt32) (h : AH) : Run sc n_X10_filledShare 88 [aD p0, aI x1, aI x2, aI x3] none [aF g0] h = some (.inl (some (aF g0)), h) := by
  exact q_ret (c := (some (aF g0), h)) mt_X10_filledShare dX10_filledShare_88 rfl
theorem e_X10_filledShare_5 (sc : SC) (p0 : Nat) (v1 : AV) (v2 : AV) (v3 : AV) (h : AH) : Run sc n_X10_filledShare 5 [aD p0, v1, v2, v3] none [] h = Run sc n_X10_filledShare 11 [aD p0, aI (nI 0), aI (nI 0), aI (nI 0)] none [] h := by
  refine (s_go mt_X10_filledShare dX10_filledShare_5 rfl).trans ?_
  refine (s_go mt_X10_filledShare dX10_filledShare_6 rfl).trans ?_
  refine (s_go mt_X10_filledShare dX10_filledShare_7 rfl).trans ?_
  refine (s_go mt_X10_filledShare dX10_filledShare_8 rfl).trans ?_
  refine (s_go mt_X10_filledShare dX10_filledShare_9 rfl).trans ?_
  refine (s_go mt_X10_filledShare dX10_filledShare_10 rfl).trans ?_
  exact rfl
theorem e_X10_filledShare_16 (sc : SC) (p0 : Nat) (x1 : Int32) (x2 : Int32) (x3 : Int32) (y0 : Int32) (y1 : Int32) (h : AH) : Run sc n_X10_filledShare 16 [aD p0, aI x1, aI x2, aI x3] none [aI y1, aI y0] h = Run sc n_X10_filledShare (if y1 ≤ y0 then 70 else 19) [aD p0, aI x1, aI x2, aI x3] none [] h := by
  exact q_icmp mt_X10_filledShare dX10_filledShare_16 (fun _ _ _ _ => rfl) rfl
theorem e_X10_filledShare_26 (sc : SC) (p0 : Nat) (x1 : Int32) (x2 : Int32) (x3 : Int32) (y0 : Int32) (y1 : Int32) (h : AH) : Run sc n_X10_filledShare 26 [aD p0, aI x1, aI x2, aI x3] none [aI y1, aI y0] h = bC (Call sc n_X10_isBranch [aI y1] h) (fun v z => Run sc n_X10_filledShare 29 [aD p0, aI x1, aI x2, aI x3] none (v.toList ++ [aI y0]) z) (fun E z => some (.inr E, z)) := by
  exact q_cS mt_X10_filledShare dX10_filledShare_26 rfl mt_X10_isBranch rfl rfl
theorem e_X10_filledShare_45 (sc : SC) (p0 : Nat) (x1 : Int32) (x2 : Int32) (x3 : Int32) (y0 : Int32) (y1 : Int32) (h : AH) : Run sc n_X10_filledShare 45 [aD p0, aI x1, aI x2, aI x3] none [aI y1, aI y0] h = Run sc n_X10_filledShare (if y1 = 0 then 61 else 48) [aD p0, aI x1, aI x2, aI x3] none [aI y0] h := by
  exact q_if mt_X10_filledShare dX10_filledShare_45 (fun _ _ _ _ => rfl) rfl
theorem e_X10_filledShare_54 (sc : SC) (p0 : Nat) (x1 : Int32) (x2 : Int32) (x3 : Int32) (y0 : Int32) (y1 : Int32) (h : AH) : Run sc n_X10_filledShare 54 [aD p0, aI x1, aI x2, aI x3] none [aI y1, aI y0] h = Run sc n_X10_filledShare (if y1 = 0 then 61 else 57) [aD p0, aI x1, aI x2, aI x3] none [aI y0] h := by
  exact q_if mt_X10_filledShare dX10_filledShare_54 (fun _ _ _ _ => rfl) rfl
theorem e_X10_filledShare_79 (sc : SC) (p0 : Nat) (x1 : Int32) (x2 : Int32) (x3 : Int32) (y0 : Int32) (h : AH) : Run sc n_X10_filledShare 79 [aD p0, aI x1, aI x2, aI x3] none [aI y0] h = Run sc n_X10_filledShare 88 [aD p0, aI x1, aI x2, aI x3] none [aF (FP.i2f (y0))] h := by
  refine (s_go mt_X10_filledShare dX10_filledShare_79 rfl).trans ?_
  refine (s_go mt_X10_filledShare dX10_filledShare_80 rfl).trans ?_
  exact rfl
theorem e_X10_filledShare_29 (sc : SC) (p0 : Nat) (x1 : Int32) (x2 : Int32) (x3 : Int32) (y0 : Int32) (y1 : Int32) (h : AH) : Run sc n_X10_filledShare 29 [aD p0, aI x1, aI x2, aI x3] none [aI y1, aI y0] h = Run sc n_X10_filledShare (if y1 = 0 then 36 else 32) [aD p0, aI x1, aI x2, aI x3] none [aI y0] h := by
  exact q_if mt_X10_filledShare dX10_filledShare_29 (fun _ _ _ _ => rfl) rfl
/-! BranchSlotFillerModel.pass([I[I)V -/
theorem e_X10_pass_0 (sc : SC) (p0 : Nat) (p1 : Nat) (p2 : Nat) (v3 : AV) (h : AH) : Run sc n_X10_pass 0 [aD p0, aD p1, aD p2, v3] none [] h = Run sc n_X10_pass 2 [aD p0, aD p1, aD p2, aI (nI 0)] none [] h := by
  refine (s_go mt_X10_pass dX10_pass_0 rfl).trans ?_
  refine (s_go mt_X10_pass dX10_pass_1 rfl).trans ?_
  exact rfl
theorem e_X10_pass_2 (sc : SC) (p0 : Nat) (p1 : Nat) (p2 : Nat) (x3 : Int32) (h : AH) : Run sc n_X10_pass 2 [aD p0, aD p1, aD p2, aI x3] none [] h = bO (lenA sc h (aD p1)) (fun z => Run sc n_X10_pass 5 [aD p0, aD p1, aD p2, aI x3] none [aI (nI z), aI x3] h) := by
  refine (s_go mt_X10_pass dX10_pass_2 rfl).trans ?_
  refine (s_go mt_X10_pass dX10_pass_3 rfl).trans ?_
  exact q_alen mt_X10_pass dX10_pass_4
theorem e_X10_pass_8 (sc : SC) (p0 : Nat) (p1 : Nat) (p2 : Nat) (x3 : Int32) (h : AH) : Run sc n_X10_pass 8 [aD p0, aD p1, aD p2, aI x3] none [] h = bO (ldI sc h (fun t => t == 0) (aD p1) x3) (fun z => Run sc n_X10_pass 13 [aD p0, aD p1, aD p2, aI x3] none [aI z, aI x3, aD p2] h) := by
  refine (s_go mt_X10_pass dX10_pass_8 rfl).trans ?_
  refine (s_go mt_X10_pass dX10_pass_9 rfl).trans ?_
  refine (s_go mt_X10_pass dX10_pass_10 rfl).trans ?_
  refine (s_go mt_X10_pass dX10_pass_11 rfl).trans ?_
  exact q_iaload mt_X10_pass dX10_pass_12
theorem e_X10_pass_20 (sc : SC) (p0 : Nat) (p1 : Nat) (p2 : Nat) (x3 : Int32) (h : AH) : Run sc n_X10_pass 20 [aD p0, aD p1, aD p2, aI x3] none [] h = some (.inl none, h) := by
  exact q_ret (c := (none, h)) mt_X10_pass dX10_pass_20 rfl
theorem e_X10_pass_5 (sc : SC) (p0 : Nat) (p1 : Nat) (p2 : Nat) (x3 : Int32) (y0 : Int32) (y1 : Int32) (h : AH) : Run sc n_X10_pass 5 [aD p0, aD p1, aD p2, aI x3] none [aI y1, aI y0] h = Run sc n_X10_pass (if y1 ≤ y0 then 20 else 8) [aD p0, aD p1, aD p2, aI x3] none [] h := by
  exact q_icmp mt_X10_pass dX10_pass_5 (fun _ _ _ _ => rfl) rfl
theorem e_X10_pass_13 (sc : SC) (p0 : Nat) (p1 : Nat) (p2 : Nat) (x3 : Int32) (q0 : Nat) (y1 : Int32) (y2 : Int32) (h : AH) : Run sc n_X10_pass 13 [aD p0, aD p1, aD p2, aI x3] none [aI y2, aI y1, aD q0] h = bO (stI h (fun t => t == 0) q0 y1 y2) (fun z => Run sc n_X10_pass 14 [aD p0, aD p1, aD p2, aI x3] none [] z) := by
  exact q_iastore mt_X10_pass dX10_pass_13
theorem e_X10_pass_14 (sc : SC) (p0 : Nat) (p1 : Nat) (p2 : Nat) (x3 : Int32) (h : AH) : Run sc n_X10_pass 14 [aD p0, aD p1, aD p2, aI x3] none [] h = Run sc n_X10_pass 2 [aD p0, aD p1, aD p2, aI (x3 + nI 1)] none [] h := by
  refine (s_go mt_X10_pass dX10_pass_14 rfl).trans ?_
  refine (s_go mt_X10_pass dX10_pass_17 rfl).trans ?_
  exact rfl
/-! BranchSlotFillerModel.save()I -/
theorem e_X10_save_0 (sc : SC) (p0 : Nat) (h : AH) : Run sc n_X10_save 0 [aD p0] none [] h = bO (putF h p0 12 0 0 (aI (nI 0))) (fun z => Run sc n_X10_save 5 [aD p0] none [] z) := by
  refine (s_go mt_X10_save dX10_save_0 rfl).trans ?_
  refine (s_go mt_X10_save dX10_save_1 rfl).trans ?_
  exact q_putfield mt_X10_save dX10_save_2 rfl rfl rfl rfl
theorem e_X10_save_5 (sc : SC) (p0 : Nat) (h : AH) : Run sc n_X10_save 5 [aD p0] none [] h = bO (putF h p0 12 30 1 (aI (nI 1))) (fun z => Run sc n_X10_save 10 [aD p0] none [] z) := by
  refine (s_go mt_X10_save dX10_save_5 rfl).trans ?_
  refine (s_go mt_X10_save dX10_save_6 rfl).trans ?_
  exact q_putfield mt_X10_save dX10_save_7 rfl rfl rfl rfl
theorem e_X10_save_10 (sc : SC) (p0 : Nat) (h : AH) : Run sc n_X10_save 10 [aD p0] none [] h = bF (getF sc h (aD p0) 12 1) (fun z => Run sc n_X10_save 15 [aD p0] none [z, aD p0] h) := by
  refine (s_go mt_X10_save dX10_save_10 rfl).trans ?_
  refine (s_go mt_X10_save dX10_save_11 rfl).trans ?_
  exact q_getfield mt_X10_save dX10_save_12 rfl
theorem e_X10_save_15 (sc : SC) (p0 : Nat) (q0 : Nat) (q1 : Nat) (h : AH) : Run sc n_X10_save 15 [aD p0] none [aD q1, aD q0] h = bF (getF sc h (aD p0) 12 31) (fun z => Run sc n_X10_save 19 [aD p0] none [z, aD q1, aD q0] h) := by
  refine (s_go mt_X10_save dX10_save_15 rfl).trans ?_
  exact q_getfield mt_X10_save dX10_save_16 rfl
theorem e_X10_save_19 (sc : SC) (p0 : Nat) (q0 : Nat) (q1 : Nat) (q2 : Nat) (h : AH) : Run sc n_X10_save 19 [aD p0] none [aD q2, aD q1, aD q0] h = bI (rOK sc h (aD q0) 12 = true) (bC (Call sc n_X10_pass [aD q0, aD q1, aD q2] h) (fun v z => Run sc n_X10_save 22 [aD p0] none (v.toList ++ []) z) (fun E z => some (.inr E, z))) := by
  exact q_cV mt_X10_save dX10_save_19 rfl mt_X10_pass rfl rfl rfl
theorem e_X10_save_22 (sc : SC) (p0 : Nat) (h : AH) : Run sc n_X10_save 22 [aD p0] none [] h = bF (getF sc h (aD p0) 12 2) (fun z => Run sc n_X10_save 27 [aD p0] none [z, aD p0] h) := by
  refine (s_go mt_X10_save dX10_save_22 rfl).trans ?_
  refine (s_go mt_X10_save dX10_save_23 rfl).trans ?_
  exact q_getfield mt_X10_save dX10_save_24 rfl
theorem e_X10_save_27 (sc : SC) (p0 : Nat) (q0 : Nat) (y1 : Int32) (h : AH) : Run sc n_X10_save 27 [aD p0] none [aI y1, aD q0] h = bO (putF h q0 12 32 0 (aI y1)) (fun z => Run sc n_X10_save 30 [aD p0] none [] z) := by
  exact q_putfield mt_X10_save dX10_save_27 rfl rfl rfl rfl
theorem e_X10_save_30 (sc : SC) (p0 : Nat) (h : AH) : Run sc n_X10_save 30 [aD p0] none [] h = bF (getF sc h (aD p0) 12 3) (fun z => Run sc n_X10_save 35 [aD p0] none [z, aD p0] h) := by
  refine (s_go mt_X10_save dX10_save_30 rfl).trans ?_
  refine (s_go mt_X10_save dX10_save_31 rfl).trans ?_
  exact q_getfield mt_X10_save dX10_save_32 rfl
theorem e_X10_save_35 (sc : SC) (p0 : Nat) (q0 : Nat) (q1 : Nat) (h : AH) : Run sc n_X10_save 35 [aD p0] none [aD q1, aD q0] h = bF (getF sc h (aD p0) 12 33) (fun z => Run sc n_X10_save 39 [aD p0] none [z, aD q1, aD q0] h) := by
  refine (s_go mt_X10_save dX10_save_35 rfl).trans ?_
  exact q_getfield mt_X10_save dX10_save_36 rfl
theorem e_X10_save_39 (sc : SC) (p0 : Nat) (q0 : Nat) (q1 : Nat) (q2 : Nat) (h : AH) : Run sc n_X10_save 39 [aD p0] none [aD q2, aD q1, aD q0] h = bI (rOK sc h (aD q0) 12 = true) (bC (Call sc n_X10_pass [aD q0, aD q1, aD q2] h) (fun v z => Run sc n_X10_save 42 [aD p0] none (v.toList ++ []) z) (fun E z => some (.inr E, z))) := by
  exact q_cV mt_X10_save dX10_save_39 rfl mt_X10_pass rfl rfl rfl
theorem e_X10_save_42 (sc : SC) (p0 : Nat) (h : AH) : Run sc n_X10_save 42 [aD p0] none [] h = bF (getF sc h (aD p0) 12 17) (fun z => Run sc n_X10_save 47 [aD p0] none [z, aD p0] h) := by
  refine (s_go mt_X10_save dX10_save_42 rfl).trans ?_
  refine (s_go mt_X10_save dX10_save_43 rfl).trans ?_
  exact q_getfield mt_X10_save dX10_save_44 rfl
theorem e_X10_save_47 (sc : SC) (p0 : Nat) (q0 : Nat) (q1 : Nat) (h : AH) : Run sc n_X10_save 47 [aD p0] none [aD q1, aD q0] h = bF (getF sc h (aD p0) 12 34) (fun z => Run sc n_X10_save 51 [aD p0] none [z, aD q1, aD q0] h) := by
  refine (s_go mt_X10_save dX10_save_47 rfl).trans ?_
  exact q_getfield mt_X10_save dX10_save_48 rfl
theorem e_X10_save_51 (sc : SC) (p0 : Nat) (q0 : Nat) (q1 : Nat) (q2 : Nat) (h : AH) : Run sc n_X10_save 51 [aD p0] none [aD q2, aD q1, aD q0] h = bI (rOK sc h (aD q0) 12 = true) (bC (Call sc n_X10_pass [aD q0, aD q1, aD q2] h) (fun v z => Run sc n_X10_save 54 [aD p0] none (v.toList ++ []) z) (fun E z => some (.inr E, z))) := by
  exact q_cV mt_X10_save dX10_save_51 rfl mt_X10_pass rfl rfl rfl
theorem e_X10_save_54 (sc : SC) (p0 : Nat) (h : AH) : Run sc n_X10_save 54 [aD p0] none [] h = bF (getF sc h (aD p0) 12 2) (fun z => Run sc n_X10_save 58 [aD p0] none [z] h) := by
  refine (s_go mt_X10_save dX10_save_54 rfl).trans ?_
  exact q_getfield mt_X10_save dX10_save_55 rfl
theorem e_X10_save_58 (sc : SC) (p0 : Nat) (y0 : Int32) (h : AH) : Run sc n_X10_save 58 [aD p0] none [aI y0] h = some (.inl (some (aI y0)), h) := by
  exact q_ret (c := (some (aI y0), h)) mt_X10_save dX10_save_58 rfl
/-! BranchSlotFillerModel.restore()I -/
theorem e_X10_restore_0 (sc : SC) (p0 : Nat) (h : AH) : Run sc n_X10_restore 0 [aD p0] none [] h = bO (putF h p0 12 0 0 (aI (nI 0))) (fun z => Run sc n_X10_restore 5 [aD p0] none [] z) := by
  refine (s_go mt_X10_restore dX10_restore_0 rfl).trans ?_
  refine (s_go mt_X10_restore dX10_restore_1 rfl).trans ?_
  exact q_putfield mt_X10_restore dX10_restore_2 rfl rfl rfl rfl
theorem e_X10_restore_12 (sc : SC) (p0 : Nat) (h : AH) : Run sc n_X10_restore 12 [aD p0] none [] h = bI (rOK sc h (aD p0) 12 = true) (bC (Call sc n_X10_fail [aD p0, aI (nI 1)] h) (fun v z => Run sc n_X10_restore 17 [aD p0] none (v.toList ++ []) z) (fun E z => some (.inr E, z))) := by
  refine (s_go mt_X10_restore dX10_restore_12 rfl).trans ?_
  refine (s_go mt_X10_restore dX10_restore_13 rfl).trans ?_
  exact q_cV mt_X10_restore dX10_restore_14 rfl mt_X10_fail rfl rfl rfl
theorem e_X10_restore_18 (sc : SC) (p0 : Nat) (h : AH) : Run sc n_X10_restore 18 [aD p0] none [] h = bF (getF sc h (aD p0) 12 31) (fun z => Run sc n_X10_restore 23 [aD p0] none [z, aD p0] h) := by
  refine (s_go mt_X10_restore dX10_restore_18 rfl).trans ?_
  refine (s_go mt_X10_restore dX10_restore_19 rfl).trans ?_
  exact q_getfield mt_X10_restore dX10_restore_20 rfl
theorem e_X10_restore_5 (sc : SC) (p0 : Nat) (h : AH) : Run sc n_X10_restore 5 [aD p0] none [] h = bF (getF sc h (aD p0) 12 30) (fun z => Run sc n_X10_restore 9 [aD p0] none [z] h) := by
  refine (s_go mt_X10_restore dX10_restore_5 rfl).trans ?_
  exact q_getfield mt_X10_restore dX10_restore_6 rfl
theorem e_X10_restore_17 (sc : SC) (p0 : Nat) (y0 : Int32) (h : AH) : Run sc n_X10_restore 17 [aD p0] none [aI y0] h = some (.inl (some (aI y0)), h) := by
  exact q_ret (c := (some (aI y0), h)) mt_X10_restore dX10_restore_17 rfl
theorem e_X10_restore_23 (sc : SC) (p0 : Nat) (q0 : Nat) (q1 : Nat) (h : AH) : Run sc n_X10_restore 23 [aD p0] none [aD q1, aD q0] h = bF (getF sc h (aD p0) 12 1) (fun z => Run sc n_X10_restore 27 [aD p0] none [z, aD q1, aD q0] h) := by
  refine (s_go mt_X10_restore dX10_restore_23 rfl).trans ?_
  exact q_getfield mt_X10_restore dX10_restore_24 rfl
theorem e_X10_restore_9 (sc : SC) (p0 : Nat) (y0 : Int32) (h : AH) : Run sc n_X10_restore 9 [aD p0] none [aI y0] h = Run sc n_X10_restore (if ¬ y0 = 0 then 18 else 12) [aD p0] none [] h := by
  exact q_if mt_X10_restore dX10_restore_9 (fun _ _ _ _ => rfl) rfl
theorem e_X10_restore_27 (sc : SC) (p0 : Nat) (q0 : Nat) (q1 : Nat) (q2 : Nat) (h : AH) : Run sc n_X10_restore 27 [aD p0] none [aD q2, aD q1, aD q0] h = bI (rOK sc h (aD q0) 12 = true) (bC (Call sc n_X10_pass [aD q0, aD q1, aD q2] h) (fun v z => Run sc n_X10_restore 30 [aD p0] none (v.toList ++ []) z) (fun E z => some (.inr E, z))) := by
  exact q_cV mt_X10_restore dX10_restore_27 rfl mt_X10_pass rfl rfl rfl
theorem e_X10_restore_30 (sc : SC) (p0 : Nat) (h : AH) : Run sc n_X10_restore 30 [aD p0] none [] h = bF (getF sc h (aD p0) 12 32) (fun z => Run sc n_X10_restore 35 [aD p0] none [z, aD p0] h) := by
  refine (s_go mt_X10_restore dX10_restore_30 rfl).trans ?_
  refine (s_go mt_X10_restore dX10_restore_31 rfl).trans ?_
  exact q_getfield mt_X10_restore dX10_restore_32 rfl
theorem e_X10_restore_35 (sc : SC) (p0 : Nat) (q0 : Nat) (y1 : Int32) (h : AH) : Run sc n_X10_restore 35 [aD p0] none [aI y1, aD q0] h = bO (putF h q0 12 2 0 (aI y1)) (fun z => Run sc n_X10_restore 38 [aD p0] none [] z) := by
  exact q_putfield mt_X10_restore dX10_restore_35 rfl rfl rfl rfl
theorem e_X10_restore_38 (sc : SC) (p0 : Nat) (h : AH) : Run sc n_X10_restore 38 [aD p0] none [] h = bF (getF sc h (aD p0) 12 33) (fun z => Run sc n_X10_restore 43 [aD p0] none [z, aD p0] h) := by
  refine (s_go mt_X10_restore dX10_restore_38 rfl).trans ?_
  refine (s_go mt_X10_restore dX10_restore_39 rfl).trans ?_
  exact q_getfield mt_X10_restore dX10_restore_40 rfl
theorem e_X10_restore_43 (sc : SC) (p0 : Nat) (q0 : Nat) (q1 : Nat) (h : AH) : Run sc n_X10_restore 43 [aD p0] none [aD q1, aD q0] h = bF (getF sc h (aD p0) 12 3) (fun z => Run sc n_X10_restore 47 [aD p0] none [z, aD q1, aD q0] h) := by
  refine (s_go mt_X10_restore dX10_restore_43 rfl).trans ?_
  exact q_getfield mt_X10_restore dX10_restore_44 rfl
theorem e_X10_restore_47 (sc : SC) (p0 : Nat) (q0 : Nat) (q1 : Nat) (q2 : Nat) (h : AH) : Run sc n_X10_restore 47 [aD p0] none [aD q2, aD q1, aD q0] h = bI (rOK sc h (aD q0) 12 = true) (bC (Call sc n_X10_pass [aD q0, aD q1, aD q2] h) (fun v z => Run sc n_X10_restore 50 [aD p0] none (v.toList ++ []) z) (fun E z => some (.inr E, z))) := by
  exact q_cV mt_X10_restore dX10_restore_47 rfl mt_X10_pass rfl rfl rfl
theorem e_X10_restore_50 (sc : SC) (p0 : Nat) (h : AH) : Run sc n_X10_restore 50 [aD p0] none [] h = bF (getF sc h (aD p0) 12 34) (fun z => Run sc n_X10_restore 55 [aD p0] none [z, aD p0] h) := by
  refine (s_go mt_X10_restore dX10_restore_50 rfl).trans ?_
  refine (s_go mt_X10_restore dX10_restore_51 rfl).trans ?_
  exact q_getfield mt_X10_restore dX10_restore_52 rfl
theorem e_X10_restore_55 (sc : SC) (p0 : Nat) (q0 : Nat) (q1 : Nat) (h : AH) : Run sc n_X10_restore 55 [aD p0] none [aD q1, aD q0] h = bF (getF sc h (aD p0) 12 17) (fun z => Run sc n_X10_restore 59 [aD p0] none [z, aD q1, aD q0] h) := by
  refine (s_go mt_X10_restore dX10_restore_55 rfl).trans ?_
  exact q_getfield mt_X10_restore dX10_restore_56 rfl
theorem e_X10_restore_59 (sc : SC) (p0 : Nat) (q0 : Nat) (q1 : Nat) (q2 : Nat) (h : AH) : Run sc n_X10_restore 59 [aD p0] none [aD q2, aD q1, aD q0] h = bI (rOK sc h (aD q0) 12 = true) (bC (Call sc n_X10_pass [aD q0, aD q1, aD q2] h) (fun v z => Run sc n_X10_restore 62 [aD p0] none (v.toList ++ []) z) (fun E z => some (.inr E, z))) := by
  exact q_cV mt_X10_restore dX10_restore_59 rfl mt_X10_pass rfl rfl rfl
theorem e_X10_restore_62 (sc : SC) (p0 : Nat) (h : AH) : Run sc n_X10_restore 62 [aD p0] none [] h = bO (putF h p0 12 5 0 (aI (nI 0))) (fun z => Run sc n_X10_restore 67 [aD p0] none [] z) := by
  refine (s_go mt_X10_restore dX10_restore_62 rfl).trans ?_
  refine (s_go mt_X10_restore dX10_restore_63 rfl).trans ?_
  exact q_putfield mt_X10_restore dX10_restore_64 rfl rfl rfl rfl
theorem e_X10_restore_67 (sc : SC) (p0 : Nat) (h : AH) : Run sc n_X10_restore 67 [aD p0] none [] h = bF (getF sc h (aD p0) 12 2) (fun z => Run sc n_X10_restore 71 [aD p0] none [z] h) := by
  refine (s_go mt_X10_restore dX10_restore_67 rfl).trans ?_
  exact q_getfield mt_X10_restore dX10_restore_68 rfl
theorem e_X10_restore_71 (sc : SC) (p0 : Nat) (y0 : Int32) (h : AH) : Run sc n_X10_restore 71 [aD p0] none [aI y0] h = some (.inl (some (aI y0)), h) := by
  exact q_ret (c := (some (aI y0), h)) mt_X10_restore dX10_restore_71 rfl
