/-! the methods' entries of the table -/
theorem mt_X6_init : MT n_X6_init = some mi_X6_init := rfl
theorem mt_X7_init : MT n_X7_init = some mi_X7_init := rfl
theorem mt_J5_init_d00df : MT n_J5_init_d00df = some mi_J5_init_d00df := rfl
theorem mt_J4_init_da8c8 : MT n_J4_init_da8c8 = some mi_J4_init_da8c8 := rfl
theorem mt_X8_init : MT n_X8_init = some mi_X8_init := rfl
theorem mt_X2_init : MT n_X2_init = some mi_X2_init := rfl
theorem mt_X1_init : MT n_X1_init = some mi_X1_init := rfl
theorem mt_X3_init : MT n_X3_init = some mi_X3_init := rfl
theorem mt_X5_init : MT n_X5_init = some mi_X5_init := rfl
theorem mt_X9_init : MT n_X9_init = some mi_X9_init := rfl
theorem mt_X10_init : MT n_X10_init = some mi_X10_init := rfl
theorem mt_X7_takes : MT n_X7_takes = some mi_X7_takes := rfl
theorem mt_X9_feed : MT n_X9_feed = some mi_X9_feed := rfl
theorem mt_L_feed : MT n_L_feed = some mi_L_feed := rfl
theorem mt_X10_fail : MT n_X10_fail = some mi_X10_fail := rfl
theorem mt_X10_feed : MT n_X10_feed = some mi_X10_feed := rfl
theorem mt_X10_thrown : MT n_X10_thrown = some mi_X10_thrown := rfl
theorem mt_J0_coder_7d493 : MT n_J0_coder_7d493 = some mi_J0_coder_7d493 := rfl
theorem mt_J0_length_8abf5 : MT n_J0_length_8abf5 = some mi_J0_length_8abf5 := rfl
theorem mt_J0_isLatin1_aae02 : MT n_J0_isLatin1_aae02 = some mi_J0_isLatin1_aae02 := rfl
theorem mt_J3_checkIndex_8e157 : MT n_J3_checkIndex_8e157 = some mi_J3_checkIndex_8e157 := rfl
theorem mt_J0_checkIndex_df160 : MT n_J0_checkIndex_df160 = some mi_J0_checkIndex_df160 := rfl
theorem mt_J1_charAt_3b067 : MT n_J1_charAt_3b067 = some mi_J1_charAt_3b067 := rfl
theorem mt_J0_charAt_5068e : MT n_J0_charAt_5068e = some mi_J0_charAt_5068e := rfl
theorem mt_X7_isWord : MT n_X7_isWord = some mi_X7_isWord := rfl
theorem mt_X7_readKind : MT n_X7_readKind = some mi_X7_readKind := rfl
theorem mt_X6_put : MT n_X6_put = some mi_X6_put := rfl
theorem mt_X6_appendKind : MT n_X6_appendKind = some mi_X6_appendKind := rfl
theorem mt_X4_sign : MT n_X4_sign = some mi_X4_sign := rfl
theorem mt_X7_passes : MT n_X7_passes = some mi_X7_passes := rfl
theorem mt_X7_isDigitNext : MT n_X7_isDigitNext = some mi_X7_isDigitNext := rfl
theorem mt_X7_readsNumber : MT n_X7_readsNumber = some mi_X7_readsNumber := rfl
theorem mt_X7_readsInstruction : MT n_X7_readsInstruction = some mi_X7_readsInstruction := rfl
theorem mt_X7_readsText : MT n_X7_readsText = some mi_X7_readsText := rfl
theorem mt_X6_part : MT n_X6_part = some mi_X6_part := rfl
theorem mt_X6_kind : MT n_X6_kind = some mi_X6_kind := rfl
theorem mt_X7_greatest : MT n_X7_greatest = some mi_X7_greatest := rfl
theorem mt_X7_isInRange : MT n_X7_isInRange = some mi_X7_isInRange := rfl
theorem mt_X6_isBranch : MT n_X6_isBranch = some mi_X6_isBranch := rfl
theorem mt_X6_target : MT n_X6_target = some mi_X6_target := rfl
theorem mt_X6_appendAll : MT n_X6_appendAll = some mi_X6_appendAll := rfl
theorem mt_X9_parse : MT n_X9_parse = some mi_X9_parse := rfl
theorem mt_L_parse : MT n_L_parse = some mi_L_parse := rfl
theorem mt_X10_isIn : MT n_X10_isIn = some mi_X10_isIn := rfl
theorem mt_X10_letterAt : MT n_X10_letterAt = some mi_X10_letterAt := rfl
theorem mt_X10_isName : MT n_X10_isName = some mi_X10_isName := rfl
theorem mt_X10_kindAt : MT n_X10_kindAt = some mi_X10_kindAt := rfl
theorem mt_X10_fault : MT n_X10_fault = some mi_X10_fault := rfl
theorem mt_X10_nameLength : MT n_X10_nameLength = some mi_X10_nameLength := rfl
theorem mt_X10_operandsOf : MT n_X10_operandsOf = some mi_X10_operandsOf := rfl
theorem mt_X10_sign : MT n_X10_sign = some mi_X10_sign := rfl
theorem mt_X10_isDigit : MT n_X10_isDigit = some mi_X10_isDigit := rfl
theorem mt_X10_readOperand : MT n_X10_readOperand = some mi_X10_readOperand := rfl
theorem mt_X10_readInstruction : MT n_X10_readInstruction = some mi_X10_readInstruction := rfl
theorem mt_X10_isBranch : MT n_X10_isBranch = some mi_X10_isBranch := rfl
theorem mt_X10_isGood : MT n_X10_isGood = some mi_X10_isGood := rfl
theorem mt_X10_parse : MT n_X10_parse = some mi_X10_parse := rfl
theorem mt_X9_clear : MT n_X9_clear = some mi_X9_clear := rfl
theorem mt_X10_clear : MT n_X10_clear = some mi_X10_clear := rfl
theorem mt_X9_instructions : MT n_X9_instructions = some mi_X9_instructions := rfl
theorem mt_X10_instructions : MT n_X10_instructions = some mi_X10_instructions := rfl
theorem mt_X6_has : MT n_X6_has = some mi_X6_has := rfl
theorem mt_X9_instruction : MT n_X9_instruction = some mi_X9_instruction := rfl
theorem mt_L_instruction : MT n_L_instruction = some mi_L_instruction := rfl
theorem mt_X10_instruction : MT n_X10_instruction = some mi_X10_instruction := rfl
theorem mt_X6_copyFrom : MT n_X6_copyFrom = some mi_X6_copyFrom := rfl
theorem mt_X3_remember : MT n_X3_remember = some mi_X3_remember := rfl
theorem mt_X6_entryOf : MT n_X6_entryOf = some mi_X6_entryOf := rfl
theorem mt_X6_expandFrom : MT n_X6_expandFrom = some mi_X6_expandFrom := rfl
theorem mt_X9_expand : MT n_X9_expand = some mi_X9_expand := rfl
theorem mt_X10_remember : MT n_X10_remember = some mi_X10_remember := rfl
theorem mt_X10_entryOf : MT n_X10_entryOf = some mi_X10_entryOf := rfl
theorem mt_X10_put : MT n_X10_put = some mi_X10_put := rfl
theorem mt_X10_expand : MT n_X10_expand = some mi_X10_expand := rfl
theorem mt_X9_entries : MT n_X9_entries = some mi_X9_entries := rfl
theorem mt_X10_entryMany : MT n_X10_entryMany = some mi_X10_entryMany := rfl
theorem mt_X10_entries : MT n_X10_entries = some mi_X10_entries := rfl
theorem mt_X6_isSlot : MT n_X6_isSlot = some mi_X6_isSlot := rfl
theorem mt_X6_branchesTo : MT n_X6_branchesTo = some mi_X6_branchesTo := rfl
theorem mt_X9_entry : MT n_X9_entry = some mi_X9_entry := rfl
theorem mt_L_entry : MT n_L_entry = some mi_L_entry := rfl
theorem mt_X10_isEntry : MT n_X10_isEntry = some mi_X10_isEntry := rfl
theorem mt_X10_at : MT n_X10_at = some mi_X10_at := rfl
theorem mt_X10_isSlot : MT n_X10_isSlot = some mi_X10_isSlot := rfl
theorem mt_X10_targeted : MT n_X10_targeted = some mi_X10_targeted := rfl
theorem mt_X10_entry : MT n_X10_entry = some mi_X10_entry := rfl
theorem mt_X6_branches : MT n_X6_branches = some mi_X6_branches := rfl
theorem mt_X6_hasEmptySlot : MT n_X6_hasEmptySlot = some mi_X6_hasEmptySlot := rfl
theorem mt_X6_emptySlots : MT n_X6_emptySlots = some mi_X6_emptySlots := rfl
theorem mt_X6_annullingBranches : MT n_X6_annullingBranches = some mi_X6_annullingBranches := rfl
theorem mt_X6_nops : MT n_X6_nops = some mi_X6_nops := rfl
theorem mt_X2_reach : MT n_X2_reach = some mi_X2_reach := rfl
theorem mt_X2_growReached : MT n_X2_growReached = some mi_X2_growReached := rfl
theorem mt_X2_unreachable : MT n_X2_unreachable = some mi_X2_unreachable := rfl
theorem mt_X9_count : MT n_X9_count = some mi_X9_count := rfl
theorem mt_L_count : MT n_L_count = some mi_L_count := rfl
theorem mt_X10_meet : MT n_X10_meet = some mi_X10_meet := rfl
theorem mt_X10_findReached : MT n_X10_findReached = some mi_X10_findReached := rfl
theorem mt_X10_count : MT n_X10_count = some mi_X10_count := rfl
theorem mt_X6_reads : MT n_X6_reads = some mi_X6_reads := rfl
theorem mt_X6_writes : MT n_X6_writes = some mi_X6_writes := rfl
theorem mt_X2_liveThrough : MT n_X2_liveThrough = some mi_X2_liveThrough := rfl
theorem mt_X6_isAnnulling : MT n_X6_isAnnulling = some mi_X6_isAnnulling := rfl
theorem mt_X2_liveFromFollowing : MT n_X2_liveFromFollowing = some mi_X2_liveFromFollowing := rfl
theorem mt_X2_liveBefore : MT n_X2_liveBefore = some mi_X2_liveBefore := rfl
theorem mt_X9_live : MT n_X9_live = some mi_X9_live := rfl
theorem mt_L_live : MT n_L_live = some mi_L_live := rfl
theorem mt_X10_reads : MT n_X10_reads = some mi_X10_reads := rfl
theorem mt_X10_writes : MT n_X10_writes = some mi_X10_writes := rfl
theorem mt_X10_through : MT n_X10_through = some mi_X10_through := rfl
theorem mt_X10_liveNow : MT n_X10_liveNow = some mi_X10_liveNow := rfl
theorem mt_X10_findLives : MT n_X10_findLives = some mi_X10_findLives := rfl
theorem mt_X10_live : MT n_X10_live = some mi_X10_live := rfl
theorem mt_X4_isMemoryAccess : MT n_X4_isMemoryAccess = some mi_X4_isMemoryAccess := rfl
theorem mt_X6_areIndependent : MT n_X6_areIndependent = some mi_X6_areIndependent := rfl
theorem mt_X9_isIndependent : MT n_X9_isIndependent = some mi_X9_isIndependent := rfl
theorem mt_L_isIndependent : MT n_L_isIndependent = some mi_L_isIndependent := rfl
theorem mt_X10_areIndependent : MT n_X10_areIndependent = some mi_X10_areIndependent := rfl
theorem mt_X10_isIndependent : MT n_X10_isIndependent = some mi_X10_isIndependent := rfl
theorem mt_X9_isWay : MT n_X9_isWay = some mi_X9_isWay := rfl
theorem mt_X4_canFill : MT n_X4_canFill = some mi_X4_canFill := rfl
theorem mt_X1_canPass : MT n_X1_canPass = some mi_X1_canPass := rfl
theorem mt_X1_findBefore : MT n_X1_findBefore = some mi_X1_findBefore := rfl
theorem mt_X1_findAtTarget : MT n_X1_findAtTarget = some mi_X1_findAtTarget := rfl
theorem mt_X1_findInFallThrough : MT n_X1_findInFallThrough = some mi_X1_findInFallThrough := rfl
theorem mt_X1_find : MT n_X1_find = some mi_X1_find := rfl
theorem mt_X9_candidate : MT n_X9_candidate = some mi_X9_candidate := rfl
theorem mt_L_candidate : MT n_L_candidate = some mi_L_candidate := rfl
theorem mt_X10_beforeCandidate : MT n_X10_beforeCandidate = some mi_X10_beforeCandidate := rfl
theorem mt_X10_isPlain : MT n_X10_isPlain = some mi_X10_isPlain := rfl
theorem mt_X10_targetCandidate : MT n_X10_targetCandidate = some mi_X10_targetCandidate := rfl
theorem mt_X10_fallCandidate : MT n_X10_fallCandidate = some mi_X10_fallCandidate := rfl
theorem mt_X10_candidateOf : MT n_X10_candidateOf = some mi_X10_candidateOf := rfl
theorem mt_X10_problem : MT n_X10_problem = some mi_X10_problem := rfl
theorem mt_X10_candidate : MT n_X10_candidate = some mi_X10_candidate := rfl
theorem mt_X6_copyInstruction : MT n_X6_copyInstruction = some mi_X6_copyInstruction := rfl
theorem mt_X6_remove : MT n_X6_remove = some mi_X6_remove := rfl
theorem mt_X1_move : MT n_X1_move = some mi_X1_move := rfl
theorem mt_X9_fill : MT n_X9_fill = some mi_X9_fill := rfl
theorem mt_L_fill : MT n_L_fill = some mi_L_fill := rfl
theorem mt_X10_take : MT n_X10_take = some mi_X10_take := rfl
theorem mt_X10_doFill : MT n_X10_doFill = some mi_X10_doFill := rfl
theorem mt_X10_fill : MT n_X10_fill = some mi_X10_fill := rfl
theorem mt_X1_fillEach : MT n_X1_fillEach = some mi_X1_fillEach := rfl
theorem mt_X9_fillAll : MT n_X9_fillAll = some mi_X9_fillAll := rfl
theorem mt_L_fillAll : MT n_L_fillAll = some mi_L_fillAll := rfl
theorem mt_X10_fillAll : MT n_X10_fillAll = some mi_X10_fillAll := rfl
theorem mt_X3_takeBack : MT n_X3_takeBack = some mi_X3_takeBack := rfl
theorem mt_X9_undo : MT n_X9_undo = some mi_X9_undo := rfl
theorem mt_L_undo : MT n_L_undo = some mi_L_undo := rfl
theorem mt_X10_undo : MT n_X10_undo = some mi_X10_undo := rfl
theorem mt_J8_newLength_cabcc : MT n_J8_newLength_cabcc = some mi_J8_newLength_cabcc := rfl
theorem mt_J5_newCapacity_0f7a4 : MT n_J5_newCapacity_0f7a4 = some mi_J5_newCapacity_0f7a4 := rfl
theorem mt_J7_copyOf_9075b : MT n_J7_copyOf_9075b = some mi_J7_copyOf_9075b := rfl
theorem mt_J5_ensureCapacityInternal_d00df : MT n_J5_ensureCapacityInternal_d00df = some mi_J5_ensureCapacityInternal_d00df := rfl
theorem mt_J5_isLatin1_aae02 : MT n_J5_isLatin1_aae02 = some mi_J5_isLatin1_aae02 := rfl
theorem mt_J5_setLength_d00df : MT n_J5_setLength_d00df = some mi_J5_setLength_d00df := rfl
theorem mt_J4_setLength_d00df : MT n_J4_setLength_d00df = some mi_J4_setLength_d00df := rfl
theorem mt_J1_canEncode_fc78d : MT n_J1_canEncode_fc78d = some mi_J1_canEncode_fc78d := rfl
theorem mt_J5_append_3fe6f : MT n_J5_append_3fe6f = some mi_J5_append_3fe6f := rfl
theorem mt_J4_append_cf468 : MT n_J4_append_cf468 = some mi_J4_append_cf468 := rfl
theorem mt_J5_inflateIfNeededFor_a7421 : MT n_J5_inflateIfNeededFor_a7421 = some mi_J5_inflateIfNeededFor_a7421 := rfl
theorem mt_J1_inflate_0e8fd : MT n_J1_inflate_0e8fd = some mi_J1_inflate_0e8fd := rfl
theorem mt_J0_getBytes_840e7 : MT n_J0_getBytes_840e7 = some mi_J0_getBytes_840e7 := rfl
theorem mt_J5_putStringAt_47b60 : MT n_J5_putStringAt_47b60 = some mi_J5_putStringAt_47b60 := rfl
theorem mt_J5_append_cf1ce : MT n_J5_append_cf1ce = some mi_J5_append_cf1ce := rfl
theorem mt_J4_append_15ec4 : MT n_J4_append_15ec4 = some mi_J4_append_15ec4 := rfl
theorem mt_X8_writeNumber : MT n_X8_writeNumber = some mi_X8_writeNumber := rfl
theorem mt_X8_writeInstruction : MT n_X8_writeInstruction = some mi_X8_writeInstruction := rfl
theorem mt_J5_length_8abf5 : MT n_J5_length_8abf5 = some mi_J5_length_8abf5 := rfl
theorem mt_J4_length_8abf5 : MT n_J4_length_8abf5 = some mi_J4_length_8abf5 := rfl
theorem mt_X8_writeProgram : MT n_X8_writeProgram = some mi_X8_writeProgram := rfl
theorem mt_X9_write : MT n_X9_write = some mi_X9_write := rfl
theorem mt_X10_add : MT n_X10_add = some mi_X10_add := rfl
theorem mt_X10_addName : MT n_X10_addName = some mi_X10_addName := rfl
theorem mt_X10_addKind : MT n_X10_addKind = some mi_X10_addKind := rfl
theorem mt_X10_addNumber : MT n_X10_addNumber = some mi_X10_addNumber := rfl
theorem mt_X10_write : MT n_X10_write = some mi_X10_write := rfl
theorem mt_J5_charAt_5068e : MT n_J5_charAt_5068e = some mi_J5_charAt_5068e := rfl
theorem mt_J4_charAt_5068e : MT n_J4_charAt_5068e = some mi_J4_charAt_5068e := rfl
theorem mt_X9_text : MT n_X9_text = some mi_X9_text := rfl
theorem mt_L_text : MT n_L_text = some mi_L_text := rfl
theorem mt_X10_text : MT n_X10_text = some mi_X10_text := rfl
theorem mt_X9_placeOf : MT n_X9_placeOf = some mi_X9_placeOf := rfl
theorem mt_X9_setInitial : MT n_X9_setInitial = some mi_X9_setInitial := rfl
theorem mt_L_setInitial : MT n_L_setInitial = some mi_L_setInitial := rfl
theorem mt_X10_placeOf : MT n_X10_placeOf = some mi_X10_placeOf := rfl
theorem mt_X10_setInitial : MT n_X10_setInitial = some mi_X10_setInitial := rfl
theorem mt_X5_conditionHolds : MT n_X5_conditionHolds = some mi_X5_conditionHolds := rfl
theorem mt_Jx29ce0_ordinal_8abf5 : MT n_Jx29ce0_ordinal_8abf5 = some mi_Jx29ce0_ordinal_8abf5 := rfl
theorem mt_X5_cellPlace : MT n_X5_cellPlace = some mi_X5_cellPlace := rfl
theorem mt_X5_perform : MT n_X5_perform = some mi_X5_perform := rfl
theorem mt_X5_executes : MT n_X5_executes = some mi_X5_executes := rfl
theorem mt_X9_run : MT n_X9_run = some mi_X9_run := rfl
theorem mt_L_run : MT n_L_run = some mi_L_run := rfl
theorem mt_X10_partOf : MT n_X10_partOf = some mi_X10_partOf := rfl
theorem mt_X10_execute : MT n_X10_execute = some mi_X10_execute := rfl
theorem mt_X10_isTaken : MT n_X10_isTaken = some mi_X10_isTaken := rfl
theorem mt_X10_runs : MT n_X10_runs = some mi_X10_runs := rfl
theorem mt_X10_run : MT n_X10_run = some mi_X10_run := rfl
theorem mt_X9_checkKept : MT n_X9_checkKept = some mi_X9_checkKept := rfl
theorem mt_X9_finalValue : MT n_X9_finalValue = some mi_X9_finalValue := rfl
theorem mt_L_finalValue : MT n_L_finalValue = some mi_L_finalValue := rfl
theorem mt_X10_finalValue : MT n_X10_finalValue = some mi_X10_finalValue := rfl
theorem mt_X9_outputs : MT n_X9_outputs = some mi_X9_outputs := rfl
theorem mt_L_outputs : MT n_L_outputs = some mi_L_outputs := rfl
theorem mt_X10_outputs : MT n_X10_outputs = some mi_X10_outputs := rfl
theorem mt_X9_output : MT n_X9_output = some mi_X9_output := rfl
theorem mt_L_output : MT n_L_output = some mi_L_output := rfl
theorem mt_X10_output : MT n_X10_output = some mi_X10_output := rfl
theorem mt_X9_checkDrawn : MT n_X9_checkDrawn = some mi_X9_checkDrawn := rfl
theorem mt_X9_drawInitial : MT n_X9_drawInitial = some mi_X9_drawInitial := rfl
theorem mt_X5_hasEffectsOf : MT n_X5_hasEffectsOf = some mi_X5_hasEffectsOf := rfl
theorem mt_X9_differences : MT n_X9_differences = some mi_X9_differences := rfl
theorem mt_L_differences : MT n_L_differences = some mi_L_differences := rfl
theorem mt_X10_draw : MT n_X10_draw = some mi_X10_draw := rfl
theorem mt_X10_runsDrawn : MT n_X10_runsDrawn = some mi_X10_runsDrawn := rfl
theorem mt_X10_isDifferent : MT n_X10_isDifferent = some mi_X10_isDifferent := rfl
theorem mt_X10_differences : MT n_X10_differences = some mi_X10_differences := rfl
theorem mt_X9_meanSteps : MT n_X9_meanSteps = some mi_X9_meanSteps := rfl
theorem mt_L_meanSteps : MT n_L_meanSteps = some mi_L_meanSteps := rfl
theorem mt_X10_meanSteps : MT n_X10_meanSteps = some mi_X10_meanSteps := rfl
theorem mt_X9_filledShare : MT n_X9_filledShare = some mi_X9_filledShare := rfl
theorem mt_L_filledShare : MT n_L_filledShare = some mi_L_filledShare := rfl
theorem mt_X10_filledShare : MT n_X10_filledShare = some mi_X10_filledShare := rfl
theorem mt_X9_save : MT n_X9_save = some mi_X9_save := rfl
theorem mt_X10_pass : MT n_X10_pass = some mi_X10_pass := rfl
theorem mt_X10_save : MT n_X10_save = some mi_X10_save := rfl
theorem mt_X9_restore : MT n_X9_restore = some mi_X9_restore := rfl
theorem mt_L_restore : MT n_L_restore = some mi_L_restore := rfl
theorem mt_X10_restore : MT n_X10_restore = some mi_X10_restore := rfl
theorem mt_L_law : MT n_L_law = some mi_L_law := rfl
/-! java/lang/AbstractStringBuilder.<init>(I)V -/
theorem e_J5_init_d00df_0 (sc : SC) (p0 : Nat) (x1 : Int32) (h : AH) : Run sc n_J5_init_d00df 0 [aD p0, aI x1] none [] h = Run sc n_J5_init_d00df (if (nI 1) = 0 then 25 else 10) [aD p0, aI x1] none [] h := by
  refine (s_go mt_J5_init_d00df dJ5_init_d00df_0 rfl).trans ?_
  refine (s_go mt_J5_init_d00df dJ5_init_d00df_1 rfl).trans ?_
  refine (s_go mt_J5_init_d00df dJ5_init_d00df_4 rfl).trans ?_
  exact q_if mt_J5_init_d00df dJ5_init_d00df_7 (fun _ _ _ _ => rfl) rfl
theorem e_J5_init_d00df_10 (sc : SC) (p0 : Nat) (x1 : Int32) (h : AH) : Run sc n_J5_init_d00df 10 [aD p0, aI x1] none [] h = bI (¬ (x1 < 0 ∨ 67108864 < (x1).toNatClampNeg)) (Run sc n_J5_init_d00df 14 [aD p0, aI x1] none [aD h.1.length, aD p0] (hpush h (oI 2 (x1).toNatClampNeg (fun _ => 0)))) := by
  refine (s_go mt_J5_init_d00df dJ5_init_d00df_10 rfl).trans ?_
  refine (s_go mt_J5_init_d00df dJ5_init_d00df_11 rfl).trans ?_
  exact q_newarray (mk := fun m => oI 2 m (fun _ => 0)) mt_J5_init_d00df dJ5_init_d00df_12 (fun _ => rfl)
theorem e_J5_init_d00df_14 (sc : SC) (p0 : Nat) (x1 : Int32) (q0 : Nat) (q1 : Nat) (h : AH) : Run sc n_J5_init_d00df 14 [aD p0, aI x1] none [aD q1, aD q0] h = bO (putF h q0 1 0 3 (aD q1)) (fun z => Run sc n_J5_init_d00df 17 [aD p0, aI x1] none [] z) := by
  exact q_putfield mt_J5_init_d00df dJ5_init_d00df_14 rfl rfl rfl rfl
theorem e_J5_init_d00df_17 (sc : SC) (p0 : Nat) (x1 : Int32) (h : AH) : Run sc n_J5_init_d00df 17 [aD p0, aI x1] none [] h = bO (putF h p0 1 1 2 (aI (nI 0))) (fun z => Run sc n_J5_init_d00df 22 [aD p0, aI x1] none [] z) := by
  refine (s_go mt_J5_init_d00df dJ5_init_d00df_17 rfl).trans ?_
  refine (s_go mt_J5_init_d00df dJ5_init_d00df_18 rfl).trans ?_
  exact q_putfield mt_J5_init_d00df dJ5_init_d00df_19 rfl rfl rfl rfl
theorem e_J5_init_d00df_22 (sc : SC) (p0 : Nat) (x1 : Int32) (h : AH) : Run sc n_J5_init_d00df 22 [aD p0, aI x1] none [] h = some (.inl none, h) := by
  refine (s_go mt_J5_init_d00df dJ5_init_d00df_22 rfl).trans ?_
  exact q_ret (c := (none, h)) mt_J5_init_d00df dJ5_init_d00df_38 rfl
/-! java/lang/AbstractStringBuilder.newCapacity(I)I -/
theorem e_J5_newCapacity_0f7a4_0 (sc : SC) (p0 : Nat) (x1 : Int32) (v2 : AV) (v3 : AV) (v4 : AV) (v5 : AV) (h : AH) : Run sc n_J5_newCapacity_0f7a4 0 [aD p0, aI x1, v2, v3, v4, v5] none [] h = bF (getF sc h (aD p0) 1 0) (fun z => Run sc n_J5_newCapacity_0f7a4 4 [aD p0, aI x1, v2, v3, v4, v5] none [z] h) := by
  refine (s_go mt_J5_newCapacity_0f7a4 dJ5_newCapacity_0f7a4_0 rfl).trans ?_
  exact q_getfield mt_J5_newCapacity_0f7a4 dJ5_newCapacity_0f7a4_1 rfl
theorem e_J5_newCapacity_0f7a4_51 (sc : SC) (p0 : Nat) (x1 : Int32) (x2 : Int32) (x3 : Int32) (x4 : Int32) (x5 : Int32) (h : AH) : Run sc n_J5_newCapacity_0f7a4 51 [aD p0, aI x1, aI x2, aI x3, aI x4, aI x5] none [] h = bF (getF sc h (aD p0) 1 1) (fun z => Run sc n_J5_newCapacity_0f7a4 57 [aD p0, aI x1, aI x2, aI x3, aI x4, aI x5] none [z, aI x5] h) := by
  refine (s_go mt_J5_newCapacity_0f7a4 dJ5_newCapacity_0f7a4_51 rfl).trans ?_
  refine (s_go mt_J5_newCapacity_0f7a4 dJ5_newCapacity_0f7a4_53 rfl).trans ?_
  exact q_getfield mt_J5_newCapacity_0f7a4 dJ5_newCapacity_0f7a4_54 rfl
theorem e_J5_newCapacity_0f7a4_4 (sc : SC) (p0 : Nat) (x1 : Int32) (v2 : AV) (v3 : AV) (v4 : AV) (v5 : AV) (q0 : Nat) (h : AH) : Run sc n_J5_newCapacity_0f7a4 4 [aD p0, aI x1, v2, v3, v4, v5] none [aD q0] h = bO (lenA sc h (aD q0)) (fun z => Run sc n_J5_newCapacity_0f7a4 5 [aD p0, aI x1, v2, v3, v4, v5] none [aI (nI z)] h) := by
  exact q_alen mt_J5_newCapacity_0f7a4 dJ5_newCapacity_0f7a4_4
theorem e_J5_newCapacity_0f7a4_57 (sc : SC) (p0 : Nat) (x1 : Int32) (x2 : Int32) (x3 : Int32) (x4 : Int32) (x5 : Int32) (y0 : Int32) (y1 : Int32) (h : AH) : Run sc n_J5_newCapacity_0f7a4 57 [aD p0, aI x1, aI x2, aI x3, aI x4, aI x5] none [aI y1, aI y0] h = some (.inl (some (aI (y0 >>> (y1 &&& 31)))), h) := by
  refine (s_go mt_J5_newCapacity_0f7a4 dJ5_newCapacity_0f7a4_57 rfl).trans ?_
  exact q_ret (c := (some (aI (y0 >>> (y1 &&& 31))), h)) mt_J5_newCapacity_0f7a4 dJ5_newCapacity_0f7a4_58 rfl
theorem e_J5_newCapacity_0f7a4_5 (sc : SC) (p0 : Nat) (x1 : Int32) (v2 : AV) (v3 : AV) (v4 : AV) (v5 : AV) (y0 : Int32) (h : AH) : Run sc n_J5_newCapacity_0f7a4 5 [aD p0, aI x1, v2, v3, v4, v5] none [aI y0] h = bF (getF sc h (aD p0) 1 1) (fun z => Run sc n_J5_newCapacity_0f7a4 11 [aD p0, aI x1, aI y0, v3, v4, v5] none [z, aI x1] h) := by
  refine (s_go mt_J5_newCapacity_0f7a4 dJ5_newCapacity_0f7a4_5 rfl).trans ?_
  refine (s_go mt_J5_newCapacity_0f7a4 dJ5_newCapacity_0f7a4_6 rfl).trans ?_
  refine (s_go mt_J5_newCapacity_0f7a4 dJ5_newCapacity_0f7a4_7 rfl).trans ?_
  exact q_getfield mt_J5_newCapacity_0f7a4 dJ5_newCapacity_0f7a4_8 rfl
theorem e_J5_newCapacity_0f7a4_11 (sc : SC) (p0 : Nat) (x1 : Int32) (x2 : Int32) (v3 : AV) (v4 : AV) (v5 : AV) (y0 : Int32) (y1 : Int32) (h : AH) : Run sc n_J5_newCapacity_0f7a4 11 [aD p0, aI x1, aI x2, v3, v4, v5] none [aI y1, aI y0] h = bF (getF sc h (aD p0) 1 1) (fun z => Run sc n_J5_newCapacity_0f7a4 27 [aD p0, aI x1, aI x2, aI (y0 <<< (y1 &&& 31)), aI ((y0 <<< (y1 &&& 31)) - x2), v5] none [z, aI (nI 2), aI x2, aI ((y0 <<< (y1 &&& 31)) - x2), aI x2] h) := by
  refine (s_go mt_J5_newCapacity_0f7a4 dJ5_newCapacity_0f7a4_11 rfl).trans ?_
  refine (s_go mt_J5_newCapacity_0f7a4 dJ5_newCapacity_0f7a4_12 rfl).trans ?_
  refine (s_go mt_J5_newCapacity_0f7a4 dJ5_newCapacity_0f7a4_13 rfl).trans ?_
  refine (s_go mt_J5_newCapacity_0f7a4 dJ5_newCapacity_0f7a4_14 rfl).trans ?_
  refine (s_go mt_J5_newCapacity_0f7a4 dJ5_newCapacity_0f7a4_15 rfl).trans ?_
  refine (s_go mt_J5_newCapacity_0f7a4 dJ5_newCapacity_0f7a4_16 rfl).trans ?_
  refine (s_go mt_J5_newCapacity_0f7a4 dJ5_newCapacity_0f7a4_18 rfl).trans ?_
  refine (s_go mt_J5_newCapacity_0f7a4 dJ5_newCapacity_0f7a4_19 rfl).trans ?_
  refine (s_go mt_J5_newCapacity_0f7a4 dJ5_newCapacity_0f7a4_21 rfl).trans ?_
  refine (s_go mt_J5_newCapacity_0f7a4 dJ5_newCapacity_0f7a4_22 rfl).trans ?_
  refine (s_go mt_J5_newCapacity_0f7a4 dJ5_newCapacity_0f7a4_23 rfl).trans ?_
  exact q_getfield mt_J5_newCapacity_0f7a4 dJ5_newCapacity_0f7a4_24 rfl
theorem e_J5_newCapacity_0f7a4_27 (sc : SC) (p0 : Nat) (x1 : Int32) (x2 : Int32) (x3 : Int32) (x4 : Int32) (v5 : AV) (y0 : Int32) (y1 : Int32) (y2 : Int32) (y3 : Int32) (y4 : Int32) (h : AH) : Run sc n_J5_newCapacity_0f7a4 27 [aD p0, aI x1, aI x2, aI x3, aI x4, v5] none [aI y4, aI y3, aI y2, aI y1, aI y0] h = bC (Call sc n_J8_newLength_cabcc [aI y0, aI y1, aI (y2 + (y3 <<< (y4 &&& 31)))] h) (fun v z => Run sc n_J5_newCapacity_0f7a4 32 [aD p0, aI x1, aI x2, aI x3, aI x4, v5] none (v.toList ++ []) z) (fun E z => some (.inr E, z)) := by
  refine (s_go mt_J5_newCapacity_0f7a4 dJ5_newCapacity_0f7a4_27 rfl).trans ?_
  refine (s_go mt_J5_newCapacity_0f7a4 dJ5_newCapacity_0f7a4_28 rfl).trans ?_
  exact q_cS mt_J5_newCapacity_0f7a4 dJ5_newCapacity_0f7a4_29 rfl mt_J8_newLength_cabcc rfl rfl
theorem e_J5_newCapacity_0f7a4_32 (sc : SC) (p0 : Nat) (x1 : Int32) (x2 : Int32) (x3 : Int32) (x4 : Int32) (v5 : AV) (y0 : Int32) (h : AH) : Run sc n_J5_newCapacity_0f7a4 32 [aD p0, aI x1, aI x2, aI x3, aI x4, v5] none [aI y0] h = Run sc n_J5_newCapacity_0f7a4 (if ¬ y0 = (nI 2147483647) then 51 else 41) [aD p0, aI x1, aI x2, aI x3, aI x4, aI y0] none [] h := by
  refine (s_go mt_J5_newCapacity_0f7a4 dJ5_newCapacity_0f7a4_32 rfl).trans ?_
  refine (s_go mt_J5_newCapacity_0f7a4 dJ5_newCapacity_0f7a4_34 rfl).trans ?_
  refine (s_go mt_J5_newCapacity_0f7a4 dJ5_newCapacity_0f7a4_36 rfl).trans ?_
  exact q_icmp mt_J5_newCapacity_0f7a4 dJ5_newCapacity_0f7a4_38 (fun _ _ _ _ => rfl) rfl
/-! java/lang/AbstractStringBuilder.ensureCapacityInternal(I)V -/
theorem e_J5_ensureCapacityInternal_d00df_0 (sc : SC) (p0 : Nat) (x1 : Int32) (v2 : AV) (h : AH) : Run sc n_J5_ensureCapacityInternal_d00df 0 [aD p0, aI x1, v2] none [] h = bF (getF sc h (aD p0) 1 0) (fun z => Run sc n_J5_ensureCapacityInternal_d00df 4 [aD p0, aI x1, v2] none [z] h) := by
  refine (s_go mt_J5_ensureCapacityInternal_d00df dJ5_ensureCapacityInternal_d00df_0 rfl).trans ?_
  exact q_getfield mt_J5_ensureCapacityInternal_d00df dJ5_ensureCapacityInternal_d00df_1 rfl
theorem e_J5_ensureCapacityInternal_d00df_17 (sc : SC) (p0 : Nat) (x1 : Int32) (x2 : Int32) (h : AH) : Run sc n_J5_ensureCapacityInternal_d00df 17 [aD p0, aI x1, aI x2] none [] h = bF (getF sc h (aD p0) 1 0) (fun z => Run sc n_J5_ensureCapacityInternal_d00df 22 [aD p0, aI x1, aI x2] none [z, aD p0] h) := by
  refine (s_go mt_J5_ensureCapacityInternal_d00df dJ5_ensureCapacityInternal_d00df_17 rfl).trans ?_
  refine (s_go mt_J5_ensureCapacityInternal_d00df dJ5_ensureCapacityInternal_d00df_18 rfl).trans ?_
  exact q_getfield mt_J5_ensureCapacityInternal_d00df dJ5_ensureCapacityInternal_d00df_19 rfl
theorem e_J5_ensureCapacityInternal_d00df_38 (sc : SC) (p0 : Nat) (x1 : Int32) (x2 : Int32) (h : AH) : Run sc n_J5_ensureCapacityInternal_d00df 38 [aD p0, aI x1, aI x2] none [] h = some (.inl none, h) := by
  exact q_ret (c := (none, h)) mt_J5_ensureCapacityInternal_d00df dJ5_ensureCapacityInternal_d00df_38 rfl
theorem e_J5_ensureCapacityInternal_d00df_4 (sc : SC) (p0 : Nat) (x1 : Int32) (v2 : AV) (q0 : Nat) (h : AH) : Run sc n_J5_ensureCapacityInternal_d00df 4 [aD p0, aI x1, v2] none [aD q0] h = bO (lenA sc h (aD q0)) (fun z => Run sc n_J5_ensureCapacityInternal_d00df 5 [aD p0, aI x1, v2] none [aI (nI z)] h) := by
  exact q_alen mt_J5_ensureCapacityInternal_d00df dJ5_ensureCapacityInternal_d00df_4
theorem e_J5_ensureCapacityInternal_d00df_22 (sc : SC) (p0 : Nat) (x1 : Int32) (x2 : Int32) (q0 : Nat) (q1 : Nat) (h : AH) : Run sc n_J5_ensureCapacityInternal_d00df 22 [aD p0, aI x1, aI x2] none [aD q1, aD q0] h = bI (rOK sc h (aD p0) 1 = true) (bC (Call sc n_J5_newCapacity_0f7a4 [aD p0, aI x1] h) (fun v z => Run sc n_J5_ensureCapacityInternal_d00df 27 [aD p0, aI x1, aI x2] none (v.toList ++ [aD q1, aD q0]) z) (fun E z => some (.inr E, z))) := by
  refine (s_go mt_J5_ensureCapacityInternal_d00df dJ5_ensureCapacityInternal_d00df_22 rfl).trans ?_
  refine (s_go mt_J5_ensureCapacityInternal_d00df dJ5_ensureCapacityInternal_d00df_23 rfl).trans ?_
  exact q_cV mt_J5_ensureCapacityInternal_d00df dJ5_ensureCapacityInternal_d00df_24 rfl mt_J5_newCapacity_0f7a4 rfl rfl rfl
theorem e_J5_ensureCapacityInternal_d00df_5 (sc : SC) (p0 : Nat) (x1 : Int32) (v2 : AV) (y0 : Int32) (h : AH) : Run sc n_J5_ensureCapacityInternal_d00df 5 [aD p0, aI x1, v2] none [aI y0] h = bF (getF sc h (aD p0) 1 1) (fun z => Run sc n_J5_ensureCapacityInternal_d00df 9 [aD p0, aI x1, v2] none [z, aI y0] h) := by
  refine (s_go mt_J5_ensureCapacityInternal_d00df dJ5_ensureCapacityInternal_d00df_5 rfl).trans ?_
  exact q_getfield mt_J5_ensureCapacityInternal_d00df dJ5_ensureCapacityInternal_d00df_6 rfl
theorem e_J5_ensureCapacityInternal_d00df_27 (sc : SC) (p0 : Nat) (x1 : Int32) (x2 : Int32) (q0 : Nat) (q1 : Nat) (y2 : Int32) (h : AH) : Run sc n_J5_ensureCapacityInternal_d00df 27 [aD p0, aI x1, aI x2] none [aI y2, aD q1, aD q0] h = bF (getF sc h (aD p0) 1 1) (fun z => Run sc n_J5_ensureCapacityInternal_d00df 31 [aD p0, aI x1, aI x2] none [z, aI y2, aD q1, aD q0] h) := by
  refine (s_go mt_J5_ensureCapacityInternal_d00df dJ5_ensureCapacityInternal_d00df_27 rfl).trans ?_
  exact q_getfield mt_J5_ensureCapacityInternal_d00df dJ5_ensureCapacityInternal_d00df_28 rfl
theorem e_J5_ensureCapacityInternal_d00df_9 (sc : SC) (p0 : Nat) (x1 : Int32) (v2 : AV) (y0 : Int32) (y1 : Int32) (h : AH) : Run sc n_J5_ensureCapacityInternal_d00df 9 [aD p0, aI x1, v2] none [aI y1, aI y0] h = Run sc n_J5_ensureCapacityInternal_d00df (if (x1 - (y0 >>> (y1 &&& 31))) ≤ 0 then 38 else 17) [aD p0, aI x1, aI (y0 >>> (y1 &&& 31))] none [] h := by
  refine (s_go mt_J5_ensureCapacityInternal_d00df dJ5_ensureCapacityInternal_d00df_9 rfl).trans ?_
  refine (s_go mt_J5_ensureCapacityInternal_d00df dJ5_ensureCapacityInternal_d00df_10 rfl).trans ?_
  refine (s_go mt_J5_ensureCapacityInternal_d00df dJ5_ensureCapacityInternal_d00df_11 rfl).trans ?_
  refine (s_go mt_J5_ensureCapacityInternal_d00df dJ5_ensureCapacityInternal_d00df_12 rfl).trans ?_
  refine (s_go mt_J5_ensureCapacityInternal_d00df dJ5_ensureCapacityInternal_d00df_13 rfl).trans ?_
  exact q_if mt_J5_ensureCapacityInternal_d00df dJ5_ensureCapacityInternal_d00df_14 (fun _ _ _ _ => rfl) rfl
theorem e_J5_ensureCapacityInternal_d00df_31 (sc : SC) (p0 : Nat) (x1 : Int32) (x2 : Int32) (q0 : Nat) (q1 : Nat) (y2 : Int32) (y3 : Int32) (h : AH) : Run sc n_J5_ensureCapacityInternal_d00df 31 [aD p0, aI x1, aI x2] none [aI y3, aI y2, aD q1, aD q0] h = bC (Call sc n_J7_copyOf_9075b [aD q1, aI (y2 <<< (y3 &&& 31))] h) (fun v z => Run sc n_J5_ensureCapacityInternal_d00df 35 [aD p0, aI x1, aI x2] none (v.toList ++ [aD q0]) z) (fun E z => some (.inr E, z)) := by
  refine (s_go mt_J5_ensureCapacityInternal_d00df dJ5_ensureCapacityInternal_d00df_31 rfl).trans ?_
  exact q_cS mt_J5_ensureCapacityInternal_d00df dJ5_ensureCapacityInternal_d00df_32 rfl mt_J7_copyOf_9075b rfl rfl
theorem e_J5_ensureCapacityInternal_d00df_35 (sc : SC) (p0 : Nat) (x1 : Int32) (x2 : Int32) (q0 : Nat) (q1 : Nat) (h : AH) : Run sc n_J5_ensureCapacityInternal_d00df 35 [aD p0, aI x1, aI x2] none [aD q1, aD q0] h = bO (putF h q0 1 0 3 (aD q1)) (fun z => Run sc n_J5_ensureCapacityInternal_d00df 38 [aD p0, aI x1, aI x2] none [] z) := by
  exact q_putfield mt_J5_ensureCapacityInternal_d00df dJ5_ensureCapacityInternal_d00df_35 rfl rfl rfl rfl
/-! java/lang/AbstractStringBuilder.isLatin1()Z -/
theorem e_J5_isLatin1_aae02_0 (sc : SC) (p0 : Nat) (h : AH) : Run sc n_J5_isLatin1_aae02 0 [aD p0] none [] h = Run sc n_J5_isLatin1_aae02 (if (nI 1) = 0 then 17 else 6) [aD p0] none [] h := by
  refine (s_go mt_J5_isLatin1_aae02 dJ5_isLatin1_aae02_0 rfl).trans ?_
  exact q_if mt_J5_isLatin1_aae02 dJ5_isLatin1_aae02_3 (fun _ _ _ _ => rfl) rfl
theorem e_J5_isLatin1_aae02_6 (sc : SC) (p0 : Nat) (h : AH) : Run sc n_J5_isLatin1_aae02 6 [aD p0] none [] h = bF (getF sc h (aD p0) 1 1) (fun z => Run sc n_J5_isLatin1_aae02 10 [aD p0] none [z] h) := by
  refine (s_go mt_J5_isLatin1_aae02 dJ5_isLatin1_aae02_6 rfl).trans ?_
  exact q_getfield mt_J5_isLatin1_aae02 dJ5_isLatin1_aae02_7 rfl
theorem e_J5_isLatin1_aae02_13 (sc : SC) (p0 : Nat) (h : AH) : Run sc n_J5_isLatin1_aae02 13 [aD p0] none [] h = Run sc n_J5_isLatin1_aae02 18 [aD p0] none [aI (nI 1)] h := by
  refine (s_go mt_J5_isLatin1_aae02 dJ5_isLatin1_aae02_13 rfl).trans ?_
  refine (s_go mt_J5_isLatin1_aae02 dJ5_isLatin1_aae02_14 rfl).trans ?_
  exact rfl
theorem e_J5_isLatin1_aae02_17 (sc : SC) (p0 : Nat) (h : AH) : Run sc n_J5_isLatin1_aae02 17 [aD p0] none [] h = Run sc n_J5_isLatin1_aae02 18 [aD p0] none [aI (nI 0)] h := by
  refine (s_go mt_J5_isLatin1_aae02 dJ5_isLatin1_aae02_17 rfl).trans ?_
  exact rfl
theorem e_J5_isLatin1_aae02_18 (sc : SC) (p0 : Nat) (y0 : Int32) (h : AH) : Run sc n_J5_isLatin1_aae02 18 [aD p0] none [aI y0] h = bI (retK (some FieldType.boolean) y0 = true) (some (.inl (some (aI y0)), h)) := by
  exact q_iret mt_J5_isLatin1_aae02 dJ5_isLatin1_aae02_18
theorem e_J5_isLatin1_aae02_10 (sc : SC) (p0 : Nat) (y0 : Int32) (h : AH) : Run sc n_J5_isLatin1_aae02 10 [aD p0] none [aI y0] h = Run sc n_J5_isLatin1_aae02 (if ¬ y0 = 0 then 17 else 13) [aD p0] none [] h := by
  exact q_if mt_J5_isLatin1_aae02 dJ5_isLatin1_aae02_10 (fun _ _ _ _ => rfl) rfl
/-! java/lang/AbstractStringBuilder.setLength(I)V -/
theorem e_J5_setLength_d00df_0 (sc : SC) (p0 : Nat) (x1 : Int32) (h : AH) : Run sc n_J5_setLength_d00df 0 [aD p0, aI x1] none [] h = Run sc n_J5_setLength_d00df (if 0 ≤ x1 then 13 else 4) [aD p0, aI x1] none [] h := by
  refine (s_go mt_J5_setLength_d00df dJ5_setLength_d00df_0 rfl).trans ?_
  exact q_if mt_J5_setLength_d00df dJ5_setLength_d00df_1 (fun _ _ _ _ => rfl) rfl
theorem e_J5_setLength_d00df_13 (sc : SC) (p0 : Nat) (x1 : Int32) (h : AH) : Run sc n_J5_setLength_d00df 13 [aD p0, aI x1] none [] h = bI (rOK sc h (aD p0) 1 = true) (bC (Call sc n_J5_ensureCapacityInternal_d00df [aD p0, aI x1] h) (fun v z => Run sc n_J5_setLength_d00df 18 [aD p0, aI x1] none (v.toList ++ []) z) (fun E z => some (.inr E, z))) := by
  refine (s_go mt_J5_setLength_d00df dJ5_setLength_d00df_13 rfl).trans ?_
  refine (s_go mt_J5_setLength_d00df dJ5_setLength_d00df_14 rfl).trans ?_
  exact q_cV mt_J5_setLength_d00df dJ5_setLength_d00df_15 rfl mt_J5_ensureCapacityInternal_d00df rfl rfl rfl
theorem e_J5_setLength_d00df_26 (sc : SC) (p0 : Nat) (x1 : Int32) (h : AH) : Run sc n_J5_setLength_d00df 26 [aD p0, aI x1] none [] h = bI (rOK sc h (aD p0) 1 = true) (bC (Call sc n_J5_isLatin1_aae02 [aD p0] h) (fun v z => Run sc n_J5_setLength_d00df 30 [aD p0, aI x1] none (v.toList ++ []) z) (fun E z => some (.inr E, z))) := by
  refine (s_go mt_J5_setLength_d00df dJ5_setLength_d00df_26 rfl).trans ?_
  exact q_cV mt_J5_setLength_d00df dJ5_setLength_d00df_27 rfl mt_J5_isLatin1_aae02 rfl rfl rfl
theorem e_J5_setLength_d00df_33 (sc : SC) (p0 : Nat) (x1 : Int32) (h : AH) : Run sc n_J5_setLength_d00df 33 [aD p0, aI x1] none [] h = bF (getF sc h (aD p0) 1 0) (fun z => Run sc n_J5_setLength_d00df 37 [aD p0, aI x1] none [z] h) := by
  refine (s_go mt_J5_setLength_d00df dJ5_setLength_d00df_33 rfl).trans ?_
  exact q_getfield mt_J5_setLength_d00df dJ5_setLength_d00df_34 rfl
theorem e_J5_setLength_d00df_48 (sc : SC) (p0 : Nat) (x1 : Int32) (h : AH) : Run sc n_J5_setLength_d00df 48 [aD p0, aI x1] none [] h = bF (getF sc h (aD p0) 1 0) (fun z => Run sc n_J5_setLength_d00df 52 [aD p0, aI x1] none [z] h) := by
  refine (s_go mt_J5_setLength_d00df dJ5_setLength_d00df_48 rfl).trans ?_
  exact q_getfield mt_J5_setLength_d00df dJ5_setLength_d00df_49 rfl
theorem e_J5_setLength_d00df_63 (sc : SC) (p0 : Nat) (x1 : Int32) (h : AH) : Run sc n_J5_setLength_d00df 63 [aD p0, aI x1] none [] h = bF (getF sc h (aD p0) 1 3) (fun z => Run sc n_J5_setLength_d00df 67 [aD p0, aI x1] none [z] h) := by
  refine (s_go mt_J5_setLength_d00df dJ5_setLength_d00df_63 rfl).trans ?_
  exact q_getfield mt_J5_setLength_d00df dJ5_setLength_d00df_64 rfl
theorem e_J5_setLength_d00df_71 (sc : SC) (p0 : Nat) (x1 : Int32) (h : AH) : Run sc n_J5_setLength_d00df 71 [aD p0, aI x1] none [] h = bO (putF h p0 1 2 1 (aI (nI 1))) (fun z => Run sc n_J5_setLength_d00df 76 [aD p0, aI x1] none [] z) := by
  refine (s_go mt_J5_setLength_d00df dJ5_setLength_d00df_71 rfl).trans ?_
  refine (s_go mt_J5_setLength_d00df dJ5_setLength_d00df_72 rfl).trans ?_
  exact q_putfield mt_J5_setLength_d00df dJ5_setLength_d00df_73 rfl rfl rfl rfl
theorem e_J5_setLength_d00df_76 (sc : SC) (p0 : Nat) (x1 : Int32) (h : AH) : Run sc n_J5_setLength_d00df 76 [aD p0, aI x1] none [] h = bO (putF h p0 1 3 0 (aI x1)) (fun z => Run sc n_J5_setLength_d00df 81 [aD p0, aI x1] none [] z) := by
  refine (s_go mt_J5_setLength_d00df dJ5_setLength_d00df_76 rfl).trans ?_
  refine (s_go mt_J5_setLength_d00df dJ5_setLength_d00df_77 rfl).trans ?_
  exact q_putfield mt_J5_setLength_d00df dJ5_setLength_d00df_78 rfl rfl rfl rfl
theorem e_J5_setLength_d00df_18 (sc : SC) (p0 : Nat) (x1 : Int32) (h : AH) : Run sc n_J5_setLength_d00df 18 [aD p0, aI x1] none [] h = bF (getF sc h (aD p0) 1 3) (fun z => Run sc n_J5_setLength_d00df 22 [aD p0, aI x1] none [z] h) := by
  refine (s_go mt_J5_setLength_d00df dJ5_setLength_d00df_18 rfl).trans ?_
  exact q_getfield mt_J5_setLength_d00df dJ5_setLength_d00df_19 rfl
theorem e_J5_setLength_d00df_30 (sc : SC) (p0 : Nat) (x1 : Int32) (y0 : Int32) (h : AH) : Run sc n_J5_setLength_d00df 30 [aD p0, aI x1] none [aI y0] h = Run sc n_J5_setLength_d00df (if y0 = 0 then 48 else 33) [aD p0, aI x1] none [] h := by
  exact q_if mt_J5_setLength_d00df dJ5_setLength_d00df_30 (fun _ _ _ _ => rfl) rfl
theorem e_J5_setLength_d00df_37 (sc : SC) (p0 : Nat) (x1 : Int32) (q0 : Nat) (h : AH) : Run sc n_J5_setLength_d00df 37 [aD p0, aI x1] none [aD q0] h = bF (getF sc h (aD p0) 1 3) (fun z => Run sc n_J5_setLength_d00df 41 [aD p0, aI x1] none [z, aD q0] h) := by
  refine (s_go mt_J5_setLength_d00df dJ5_setLength_d00df_37 rfl).trans ?_
  exact q_getfield mt_J5_setLength_d00df dJ5_setLength_d00df_38 rfl
theorem e_J5_setLength_d00df_52 (sc : SC) (p0 : Nat) (x1 : Int32) (q0 : Nat) (h : AH) : Run sc n_J5_setLength_d00df 52 [aD p0, aI x1] none [aD q0] h = bF (getF sc h (aD p0) 1 3) (fun z => Run sc n_J5_setLength_d00df 56 [aD p0, aI x1] none [z, aD q0] h) := by
  refine (s_go mt_J5_setLength_d00df dJ5_setLength_d00df_52 rfl).trans ?_
  exact q_getfield mt_J5_setLength_d00df dJ5_setLength_d00df_53 rfl
theorem e_J5_setLength_d00df_67 (sc : SC) (p0 : Nat) (x1 : Int32) (y0 : Int32) (h : AH) : Run sc n_J5_setLength_d00df 67 [aD p0, aI x1] none [aI y0] h = Run sc n_J5_setLength_d00df (if y0 ≤ x1 then 76 else 71) [aD p0, aI x1] none [] h := by
  refine (s_go mt_J5_setLength_d00df dJ5_setLength_d00df_67 rfl).trans ?_
  exact q_icmp mt_J5_setLength_d00df dJ5_setLength_d00df_68 (fun _ _ _ _ => rfl) rfl
theorem e_J5_setLength_d00df_81 (sc : SC) (p0 : Nat) (x1 : Int32) (h : AH) : Run sc n_J5_setLength_d00df 81 [aD p0, aI x1] none [] h = some (.inl none, h) := by
  exact q_ret (c := (none, h)) mt_J5_setLength_d00df dJ5_setLength_d00df_81 rfl
theorem e_J5_setLength_d00df_22 (sc : SC) (p0 : Nat) (x1 : Int32) (y0 : Int32) (h : AH) : Run sc n_J5_setLength_d00df 22 [aD p0, aI x1] none [aI y0] h = Run sc n_J5_setLength_d00df (if x1 ≤ y0 then 63 else 26) [aD p0, aI x1] none [] h := by
  refine (s_go mt_J5_setLength_d00df dJ5_setLength_d00df_22 rfl).trans ?_
  exact q_icmp mt_J5_setLength_d00df dJ5_setLength_d00df_23 (fun _ _ _ _ => rfl) rfl
/-! java/lang/AbstractStringBuilder.append(C)Ljava/lang/AbstractStringBuilder; -/
theorem e_J5_append_3fe6f_0 (sc : SC) (p0 : Nat) (x1 : Int32) (h : AH) : Run sc n_J5_append_3fe6f 0 [aD p0, aI x1] none [] h = bF (getF sc h (aD p0) 1 3) (fun z => Run sc n_J5_append_3fe6f 5 [aD p0, aI x1] none [z, aD p0] h) := by
  refine (s_go mt_J5_append_3fe6f dJ5_append_3fe6f_0 rfl).trans ?_
  refine (s_go mt_J5_append_3fe6f dJ5_append_3fe6f_1 rfl).trans ?_
  exact q_getfield mt_J5_append_3fe6f dJ5_append_3fe6f_2 rfl
theorem e_J5_append_3fe6f_17 (sc : SC) (p0 : Nat) (x1 : Int32) (h : AH) : Run sc n_J5_append_3fe6f 17 [aD p0, aI x1] none [] h = bC (Call sc n_J1_canEncode_fc78d [aI x1] h) (fun v z => Run sc n_J5_append_3fe6f 21 [aD p0, aI x1] none (v.toList ++ []) z) (fun E z => some (.inr E, z)) := by
  refine (s_go mt_J5_append_3fe6f dJ5_append_3fe6f_17 rfl).trans ?_
  exact q_cS mt_J5_append_3fe6f dJ5_append_3fe6f_18 rfl mt_J1_canEncode_fc78d rfl rfl
theorem e_J5_append_3fe6f_24 (sc : SC) (p0 : Nat) (x1 : Int32) (h : AH) : Run sc n_J5_append_3fe6f 24 [aD p0, aI x1] none [] h = bF (getF sc h (aD p0) 1 0) (fun z => Run sc n_J5_append_3fe6f 28 [aD p0, aI x1] none [z] h) := by
  refine (s_go mt_J5_append_3fe6f dJ5_append_3fe6f_24 rfl).trans ?_
  exact q_getfield mt_J5_append_3fe6f dJ5_append_3fe6f_25 rfl
theorem e_J5_append_3fe6f_45 (sc : SC) (p0 : Nat) (x1 : Int32) (h : AH) : Run sc n_J5_append_3fe6f 45 [aD p0, aI x1] none [] h = bI (rOK sc h (aD p0) 1 = true) (bC (Call sc n_J5_isLatin1_aae02 [aD p0] h) (fun v z => Run sc n_J5_append_3fe6f 49 [aD p0, aI x1] none (v.toList ++ []) z) (fun E z => some (.inr E, z))) := by
  refine (s_go mt_J5_append_3fe6f dJ5_append_3fe6f_45 rfl).trans ?_
  exact q_cV mt_J5_append_3fe6f dJ5_append_3fe6f_46 rfl mt_J5_isLatin1_aae02 rfl rfl rfl
theorem e_J5_append_3fe6f_56 (sc : SC) (p0 : Nat) (x1 : Int32) (h : AH) : Run sc n_J5_append_3fe6f 56 [aD p0, aI x1] none [] h = bF (getF sc h (aD p0) 1 0) (fun z => Run sc n_J5_append_3fe6f 60 [aD p0, aI x1] none [z] h) := by
  refine (s_go mt_J5_append_3fe6f dJ5_append_3fe6f_56 rfl).trans ?_
  exact q_getfield mt_J5_append_3fe6f dJ5_append_3fe6f_57 rfl
theorem e_J5_append_3fe6f_5 (sc : SC) (p0 : Nat) (x1 : Int32) (q0 : Nat) (y1 : Int32) (h : AH) : Run sc n_J5_append_3fe6f 5 [aD p0, aI x1] none [aI y1, aD q0] h = bI (rOK sc h (aD q0) 1 = true) (bC (Call sc n_J5_ensureCapacityInternal_d00df [aD q0, aI (y1 + (nI 1))] h) (fun v z => Run sc n_J5_append_3fe6f 10 [aD p0, aI x1] none (v.toList ++ []) z) (fun E z => some (.inr E, z))) := by
  refine (s_go mt_J5_append_3fe6f dJ5_append_3fe6f_5 rfl).trans ?_
  refine (s_go mt_J5_append_3fe6f dJ5_append_3fe6f_6 rfl).trans ?_
  exact q_cV mt_J5_append_3fe6f dJ5_append_3fe6f_7 rfl mt_J5_ensureCapacityInternal_d00df rfl rfl rfl
theorem e_J5_append_3fe6f_21 (sc : SC) (p0 : Nat) (x1 : Int32) (y0 : Int32) (h : AH) : Run sc n_J5_append_3fe6f 21 [aD p0, aI x1] none [aI y0] h = Run sc n_J5_append_3fe6f (if y0 = 0 then 45 else 24) [aD p0, aI x1] none [] h := by
  exact q_if mt_J5_append_3fe6f dJ5_append_3fe6f_21 (fun _ _ _ _ => rfl) rfl
theorem e_J5_append_3fe6f_28 (sc : SC) (p0 : Nat) (x1 : Int32) (q0 : Nat) (h : AH) : Run sc n_J5_append_3fe6f 28 [aD p0, aI x1] none [aD q0] h = bF (getF sc h (aD p0) 1 3) (fun z => Run sc n_J5_append_3fe6f 33 [aD p0, aI x1] none [z, aD p0, aD q0] h) := by
  refine (s_go mt_J5_append_3fe6f dJ5_append_3fe6f_28 rfl).trans ?_
  refine (s_go mt_J5_append_3fe6f dJ5_append_3fe6f_29 rfl).trans ?_
  exact q_getfield mt_J5_append_3fe6f dJ5_append_3fe6f_30 rfl
theorem e_J5_append_3fe6f_49 (sc : SC) (p0 : Nat) (x1 : Int32) (y0 : Int32) (h : AH) : Run sc n_J5_append_3fe6f 49 [aD p0, aI x1] none [aI y0] h = Run sc n_J5_append_3fe6f (if y0 = 0 then 56 else 52) [aD p0, aI x1] none [] h := by
  exact q_if mt_J5_append_3fe6f dJ5_append_3fe6f_49 (fun _ _ _ _ => rfl) rfl
theorem e_J5_append_3fe6f_60 (sc : SC) (p0 : Nat) (x1 : Int32) (q0 : Nat) (h : AH) : Run sc n_J5_append_3fe6f 60 [aD p0, aI x1] none [aD q0] h = bF (getF sc h (aD p0) 1 3) (fun z => Run sc n_J5_append_3fe6f 65 [aD p0, aI x1] none [z, aD p0, aD q0] h) := by
  refine (s_go mt_J5_append_3fe6f dJ5_append_3fe6f_60 rfl).trans ?_
  refine (s_go mt_J5_append_3fe6f dJ5_append_3fe6f_61 rfl).trans ?_
  exact q_getfield mt_J5_append_3fe6f dJ5_append_3fe6f_62 rfl
theorem e_J5_append_3fe6f_10 (sc : SC) (p0 : Nat) (x1 : Int32) (h : AH) : Run sc n_J5_append_3fe6f 10 [aD p0, aI x1] none [] h = bI (rOK sc h (aD p0) 1 = true) (bC (Call sc n_J5_isLatin1_aae02 [aD p0] h) (fun v z => Run sc n_J5_append_3fe6f 14 [aD p0, aI x1] none (v.toList ++ []) z) (fun E z => some (.inr E, z))) := by
  refine (s_go mt_J5_append_3fe6f dJ5_append_3fe6f_10 rfl).trans ?_
  exact q_cV mt_J5_append_3fe6f dJ5_append_3fe6f_11 rfl mt_J5_isLatin1_aae02 rfl rfl rfl
theorem e_J5_append_3fe6f_33 (sc : SC) (p0 : Nat) (x1 : Int32) (q0 : Nat) (q1 : Nat) (y2 : Int32) (h : AH) : Run sc n_J5_append_3fe6f 33 [aD p0, aI x1] none [aI y2, aD q1, aD q0] h = bO (putF h q1 1 3 0 (aI (y2 + (nI 1)))) (fun z => Run sc n_J5_append_3fe6f 39 [aD p0, aI x1] none [aI y2, aD q0] z) := by
  refine (s_go mt_J5_append_3fe6f dJ5_append_3fe6f_33 rfl).trans ?_
  refine (s_go mt_J5_append_3fe6f dJ5_append_3fe6f_34 rfl).trans ?_
  refine (s_go mt_J5_append_3fe6f dJ5_append_3fe6f_35 rfl).trans ?_
  exact q_putfield mt_J5_append_3fe6f dJ5_append_3fe6f_36 rfl rfl rfl rfl
theorem e_J5_append_3fe6f_65 (sc : SC) (p0 : Nat) (x1 : Int32) (q0 : Nat) (q1 : Nat) (y2 : Int32) (h : AH) : Run sc n_J5_append_3fe6f 65 [aD p0, aI x1] none [aI y2, aD q1, aD q0] h = bO (putF h q1 1 3 0 (aI (y2 + (nI 1)))) (fun z => Run sc n_J5_append_3fe6f 71 [aD p0, aI x1] none [aI y2, aD q0] z) := by
  refine (s_go mt_J5_append_3fe6f dJ5_append_3fe6f_65 rfl).trans ?_
  refine (s_go mt_J5_append_3fe6f dJ5_append_3fe6f_66 rfl).trans ?_
  refine (s_go mt_J5_append_3fe6f dJ5_append_3fe6f_67 rfl).trans ?_
  exact q_putfield mt_J5_append_3fe6f dJ5_append_3fe6f_68 rfl rfl rfl rfl
theorem e_J5_append_3fe6f_14 (sc : SC) (p0 : Nat) (x1 : Int32) (y0 : Int32) (h : AH) : Run sc n_J5_append_3fe6f 14 [aD p0, aI x1] none [aI y0] h = Run sc n_J5_append_3fe6f (if y0 = 0 then 45 else 17) [aD p0, aI x1] none [] h := by
  exact q_if mt_J5_append_3fe6f dJ5_append_3fe6f_14 (fun _ _ _ _ => rfl) rfl
theorem e_J5_append_3fe6f_39 (sc : SC) (p0 : Nat) (x1 : Int32) (q0 : Nat) (y1 : Int32) (h : AH) : Run sc n_J5_append_3fe6f 39 [aD p0, aI x1] none [aI y1, aD q0] h = bO (stI h (fun t => t == 2 || t == 3) q0 y1 ((x1).toInt8.toInt32)) (fun z => Run sc n_J5_append_3fe6f 42 [aD p0, aI x1] none [] z) := by
  refine (s_go mt_J5_append_3fe6f dJ5_append_3fe6f_39 rfl).trans ?_
  refine (s_go mt_J5_append_3fe6f dJ5_append_3fe6f_40 rfl).trans ?_
  exact q_bastore mt_J5_append_3fe6f dJ5_append_3fe6f_41
theorem e_J5_append_3fe6f_42 (sc : SC) (p0 : Nat) (x1 : Int32) (h : AH) : Run sc n_J5_append_3fe6f 42 [aD p0, aI x1] none [] h = some (.inl (some (aD p0)), h) := by
  refine (s_go mt_J5_append_3fe6f dJ5_append_3fe6f_42 rfl).trans ?_
  refine (s_go mt_J5_append_3fe6f dJ5_append_3fe6f_75 rfl).trans ?_
  exact q_ret (c := (some (aD p0), h)) mt_J5_append_3fe6f dJ5_append_3fe6f_76 rfl
/-! java/lang/AbstractStringBuilder.inflateIfNeededFor(Ljava/lang/String;)V -/
theorem e_J5_inflateIfNeededFor_a7421_0 (sc : SC) (p0 : Nat) (c1 : Nat) (h : AH) : Run sc n_J5_inflateIfNeededFor_a7421 0 [aD p0, aC c1] none [] h = Run sc n_J5_inflateIfNeededFor_a7421 (if (nI 1) = 0 then 21 else 6) [aD p0, aC c1] none [] h := by
  refine (s_go mt_J5_inflateIfNeededFor_a7421 dJ5_inflateIfNeededFor_a7421_0 rfl).trans ?_
  exact q_if mt_J5_inflateIfNeededFor_a7421 dJ5_inflateIfNeededFor_a7421_3 (fun _ _ _ _ => rfl) rfl
theorem e_J5_inflateIfNeededFor_a7421_6 (sc : SC) (p0 : Nat) (c1 : Nat) (h : AH) : Run sc n_J5_inflateIfNeededFor_a7421 6 [aD p0, aC c1] none [] h = bF (getF sc h (aD p0) 1 1) (fun z => Run sc n_J5_inflateIfNeededFor_a7421 10 [aD p0, aC c1] none [z] h) := by
  refine (s_go mt_J5_inflateIfNeededFor_a7421 dJ5_inflateIfNeededFor_a7421_6 rfl).trans ?_
  exact q_getfield mt_J5_inflateIfNeededFor_a7421 dJ5_inflateIfNeededFor_a7421_7 rfl
theorem e_J5_inflateIfNeededFor_a7421_21 (sc : SC) (p0 : Nat) (c1 : Nat) (h : AH) : Run sc n_J5_inflateIfNeededFor_a7421 21 [aD p0, aC c1] none [] h = some (.inl none, h) := by
  exact q_ret (c := (none, h)) mt_J5_inflateIfNeededFor_a7421 dJ5_inflateIfNeededFor_a7421_21 rfl
theorem e_J5_inflateIfNeededFor_a7421_10 (sc : SC) (p0 : Nat) (c1 : Nat) (y0 : Int32) (h : AH) : Run sc n_J5_inflateIfNeededFor_a7421 10 [aD p0, aC c1] none [aI y0] h = bI (rOK sc h (aC c1) 101 = true) (bC (Call sc n_J0_coder_7d493 [aC c1] h) (fun v z => Run sc n_J5_inflateIfNeededFor_a7421 14 [aD p0, aC c1] none (v.toList ++ [aI y0]) z) (fun E z => some (.inr E, z))) := by
  refine (s_go mt_J5_inflateIfNeededFor_a7421 dJ5_inflateIfNeededFor_a7421_10 rfl).trans ?_
  exact q_cV mt_J5_inflateIfNeededFor_a7421 dJ5_inflateIfNeededFor_a7421_11 rfl mt_J0_coder_7d493 rfl rfl rfl
theorem e_J5_inflateIfNeededFor_a7421_14 (sc : SC) (p0 : Nat) (c1 : Nat) (y0 : Int32) (y1 : Int32) (h : AH) : Run sc n_J5_inflateIfNeededFor_a7421 14 [aD p0, aC c1] none [aI y1, aI y0] h = Run sc n_J5_inflateIfNeededFor_a7421 (if y0 = y1 then 21 else 17) [aD p0, aC c1] none [] h := by
  exact q_icmp mt_J5_inflateIfNeededFor_a7421 dJ5_inflateIfNeededFor_a7421_14 (fun _ _ _ _ => rfl) rfl
/-! java/lang/AbstractStringBuilder.putStringAt(ILjava/lang/String;)V -/
theorem e_J5_putStringAt_47b60_0 (sc : SC) (p0 : Nat) (x1 : Int32) (c2 : Nat) (h : AH) : Run sc n_J5_putStringAt_47b60 0 [aD p0, aI x1, aC c2] none [] h = bI (rOK sc h (aD p0) 1 = true) (bC (Call sc n_J5_inflateIfNeededFor_a7421 [aD p0, aC c2] h) (fun v z => Run sc n_J5_putStringAt_47b60 5 [aD p0, aI x1, aC c2] none (v.toList ++ []) z) (fun E z => some (.inr E, z))) := by
  refine (s_go mt_J5_putStringAt_47b60 dJ5_putStringAt_47b60_0 rfl).trans ?_
  refine (s_go mt_J5_putStringAt_47b60 dJ5_putStringAt_47b60_1 rfl).trans ?_
  exact q_cV mt_J5_putStringAt_47b60 dJ5_putStringAt_47b60_2 rfl mt_J5_inflateIfNeededFor_a7421 rfl rfl rfl
theorem e_J5_putStringAt_47b60_5 (sc : SC) (p0 : Nat) (x1 : Int32) (c2 : Nat) (h : AH) : Run sc n_J5_putStringAt_47b60 5 [aD p0, aI x1, aC c2] none [] h = bF (getF sc h (aD p0) 1 0) (fun z => Run sc n_J5_putStringAt_47b60 10 [aD p0, aI x1, aC c2] none [z, aC c2] h) := by
  refine (s_go mt_J5_putStringAt_47b60 dJ5_putStringAt_47b60_5 rfl).trans ?_
  refine (s_go mt_J5_putStringAt_47b60 dJ5_putStringAt_47b60_6 rfl).trans ?_
  exact q_getfield mt_J5_putStringAt_47b60 dJ5_putStringAt_47b60_7 rfl
theorem e_J5_putStringAt_47b60_10 (sc : SC) (p0 : Nat) (x1 : Int32) (c2 : Nat) (d0 : Nat) (q1 : Nat) (h : AH) : Run sc n_J5_putStringAt_47b60 10 [aD p0, aI x1, aC c2] none [aD q1, aC d0] h = bF (getF sc h (aD p0) 1 1) (fun z => Run sc n_J5_putStringAt_47b60 15 [aD p0, aI x1, aC c2] none [z, aI x1, aD q1, aC d0] h) := by
  refine (s_go mt_J5_putStringAt_47b60 dJ5_putStringAt_47b60_10 rfl).trans ?_
  refine (s_go mt_J5_putStringAt_47b60 dJ5_putStringAt_47b60_11 rfl).trans ?_
  exact q_getfield mt_J5_putStringAt_47b60 dJ5_putStringAt_47b60_12 rfl
theorem e_J5_putStringAt_47b60_15 (sc : SC) (p0 : Nat) (x1 : Int32) (c2 : Nat) (d0 : Nat) (q1 : Nat) (y2 : Int32) (y3 : Int32) (h : AH) : Run sc n_J5_putStringAt_47b60 15 [aD p0, aI x1, aC c2] none [aI y3, aI y2, aD q1, aC d0] h = bI (rOK sc h (aC d0) 101 = true) (bC (Call sc n_J0_getBytes_840e7 [aC d0, aD q1, aI y2, aI y3] h) (fun v z => Run sc n_J5_putStringAt_47b60 18 [aD p0, aI x1, aC c2] none (v.toList ++ []) z) (fun E z => some (.inr E, z))) := by
  exact q_cV mt_J5_putStringAt_47b60 dJ5_putStringAt_47b60_15 rfl mt_J0_getBytes_840e7 rfl rfl rfl
theorem e_J5_putStringAt_47b60_18 (sc : SC) (p0 : Nat) (x1 : Int32) (c2 : Nat) (h : AH) : Run sc n_J5_putStringAt_47b60 18 [aD p0, aI x1, aC c2] none [] h = some (.inl none, h) := by
  exact q_ret (c := (none, h)) mt_J5_putStringAt_47b60 dJ5_putStringAt_47b60_18 rfl
/-! java/lang/AbstractStringBuilder.append(Ljava/lang/String;)Ljava/lang/AbstractStringBuilder; -/
theorem e_J5_append_cf1ce_0 (sc : SC) (p0 : Nat) (c1 : Nat) (v2 : AV) (h : AH) : Run sc n_J5_append_cf1ce 0 [aD p0, aC c1, v2] none [] h = Run sc n_J5_append_cf1ce 9 [aD p0, aC c1, v2] none [] h := by
  refine (s_go mt_J5_append_cf1ce dJ5_append_cf1ce_0 rfl).trans ?_
  refine (s_go mt_J5_append_cf1ce dJ5_append_cf1ce_1 rfl).trans ?_
  exact rfl
theorem e_J5_append_cf1ce_9 (sc : SC) (p0 : Nat) (c1 : Nat) (v2 : AV) (h : AH) : Run sc n_J5_append_cf1ce 9 [aD p0, aC c1, v2] none [] h = bI (rOK sc h (aC c1) 101 = true) (bC (Call sc n_J0_length_8abf5 [aC c1] h) (fun v z => Run sc n_J5_append_cf1ce 13 [aD p0, aC c1, v2] none (v.toList ++ []) z) (fun E z => some (.inr E, z))) := by
  refine (s_go mt_J5_append_cf1ce dJ5_append_cf1ce_9 rfl).trans ?_
  exact q_cV mt_J5_append_cf1ce dJ5_append_cf1ce_10 rfl mt_J0_length_8abf5 rfl rfl rfl
theorem e_J5_append_cf1ce_13 (sc : SC) (p0 : Nat) (c1 : Nat) (v2 : AV) (y0 : Int32) (h : AH) : Run sc n_J5_append_cf1ce 13 [aD p0, aC c1, v2] none [aI y0] h = bF (getF sc h (aD p0) 1 3) (fun z => Run sc n_J5_append_cf1ce 19 [aD p0, aC c1, aI y0] none [z, aD p0] h) := by
  refine (s_go mt_J5_append_cf1ce dJ5_append_cf1ce_13 rfl).trans ?_
  refine (s_go mt_J5_append_cf1ce dJ5_append_cf1ce_14 rfl).trans ?_
  refine (s_go mt_J5_append_cf1ce dJ5_append_cf1ce_15 rfl).trans ?_
  exact q_getfield mt_J5_append_cf1ce dJ5_append_cf1ce_16 rfl
theorem e_J5_append_cf1ce_19 (sc : SC) (p0 : Nat) (c1 : Nat) (x2 : Int32) (q0 : Nat) (y1 : Int32) (h : AH) : Run sc n_J5_append_cf1ce 19 [aD p0, aC c1, aI x2] none [aI y1, aD q0] h = bI (rOK sc h (aD q0) 1 = true) (bC (Call sc n_J5_ensureCapacityInternal_d00df [aD q0, aI (y1 + x2)] h) (fun v z => Run sc n_J5_append_cf1ce 24 [aD p0, aC c1, aI x2] none (v.toList ++ []) z) (fun E z => some (.inr E, z))) := by
  refine (s_go mt_J5_append_cf1ce dJ5_append_cf1ce_19 rfl).trans ?_
  refine (s_go mt_J5_append_cf1ce dJ5_append_cf1ce_20 rfl).trans ?_
  exact q_cV mt_J5_append_cf1ce dJ5_append_cf1ce_21 rfl mt_J5_ensureCapacityInternal_d00df rfl rfl rfl
theorem e_J5_append_cf1ce_24 (sc : SC) (p0 : Nat) (c1 : Nat) (x2 : Int32) (h : AH) : Run sc n_J5_append_cf1ce 24 [aD p0, aC c1, aI x2] none [] h = bF (getF sc h (aD p0) 1 3) (fun z => Run sc n_J5_append_cf1ce 29 [aD p0, aC c1, aI x2] none [z, aD p0] h) := by
  refine (s_go mt_J5_append_cf1ce dJ5_append_cf1ce_24 rfl).trans ?_
  refine (s_go mt_J5_append_cf1ce dJ5_append_cf1ce_25 rfl).trans ?_
  exact q_getfield mt_J5_append_cf1ce dJ5_append_cf1ce_26 rfl
theorem e_J5_append_cf1ce_29 (sc : SC) (p0 : Nat) (c1 : Nat) (x2 : Int32) (q0 : Nat) (y1 : Int32) (h : AH) : Run sc n_J5_append_cf1ce 29 [aD p0, aC c1, aI x2] none [aI y1, aD q0] h = bI (rOK sc h (aD q0) 1 = true) (bC (Call sc n_J5_putStringAt_47b60 [aD q0, aI y1, aC c1] h) (fun v z => Run sc n_J5_append_cf1ce 33 [aD p0, aC c1, aI x2] none (v.toList ++ []) z) (fun E z => some (.inr E, z))) := by
  refine (s_go mt_J5_append_cf1ce dJ5_append_cf1ce_29 rfl).trans ?_
  exact q_cV mt_J5_append_cf1ce dJ5_append_cf1ce_30 rfl mt_J5_putStringAt_47b60 rfl rfl rfl
theorem e_J5_append_cf1ce_33 (sc : SC) (p0 : Nat) (c1 : Nat) (x2 : Int32) (h : AH) : Run sc n_J5_append_cf1ce 33 [aD p0, aC c1, aI x2] none [] h = bF (getF sc h (aD p0) 1 3) (fun z => Run sc n_J5_append_cf1ce 38 [aD p0, aC c1, aI x2] none [z, aD p0] h) := by
  refine (s_go mt_J5_append_cf1ce dJ5_append_cf1ce_33 rfl).trans ?_
  refine (s_go mt_J5_append_cf1ce dJ5_append_cf1ce_34 rfl).trans ?_
  exact q_getfield mt_J5_append_cf1ce dJ5_append_cf1ce_35 rfl
theorem e_J5_append_cf1ce_38 (sc : SC) (p0 : Nat) (c1 : Nat) (x2 : Int32) (q0 : Nat) (y1 : Int32) (h : AH) : Run sc n_J5_append_cf1ce 38 [aD p0, aC c1, aI x2] none [aI y1, aD q0] h = bO (putF h q0 1 3 0 (aI (y1 + x2))) (fun z => Run sc n_J5_append_cf1ce 43 [aD p0, aC c1, aI x2] none [] z) := by
  refine (s_go mt_J5_append_cf1ce dJ5_append_cf1ce_38 rfl).trans ?_
  refine (s_go mt_J5_append_cf1ce dJ5_append_cf1ce_39 rfl).trans ?_
  exact q_putfield mt_J5_append_cf1ce dJ5_append_cf1ce_40 rfl rfl rfl rfl
theorem e_J5_append_cf1ce_43 (sc : SC) (p0 : Nat) (c1 : Nat) (x2 : Int32) (h : AH) : Run sc n_J5_append_cf1ce 43 [aD p0, aC c1, aI x2] none [] h = some (.inl (some (aD p0)), h) := by
  refine (s_go mt_J5_append_cf1ce dJ5_append_cf1ce_43 rfl).trans ?_
  exact q_ret (c := (some (aD p0), h)) mt_J5_append_cf1ce dJ5_append_cf1ce_44 rfl
/-! java/lang/AbstractStringBuilder.length()I -/
theorem e_J5_length_8abf5_0 (sc : SC) (p0 : Nat) (h : AH) : Run sc n_J5_length_8abf5 0 [aD p0] none [] h = bF (getF sc h (aD p0) 1 3) (fun z => Run sc n_J5_length_8abf5 4 [aD p0] none [z] h) := by
  refine (s_go mt_J5_length_8abf5 dJ5_length_8abf5_0 rfl).trans ?_
  exact q_getfield mt_J5_length_8abf5 dJ5_length_8abf5_1 rfl
theorem e_J5_length_8abf5_4 (sc : SC) (p0 : Nat) (y0 : Int32) (h : AH) : Run sc n_J5_length_8abf5 4 [aD p0] none [aI y0] h = some (.inl (some (aI y0)), h) := by
  exact q_ret (c := (some (aI y0), h)) mt_J5_length_8abf5 dJ5_length_8abf5_4 rfl
/-! java/lang/AbstractStringBuilder.charAt(I)C -/
theorem e_J5_charAt_5068e_0 (sc : SC) (p0 : Nat) (x1 : Int32) (v2 : AV) (v3 : AV) (v4 : AV) (h : AH) : Run sc n_J5_charAt_5068e 0 [aD p0, aI x1, v2, v3, v4] none [] h = bF (getF sc h (aD p0) 1 1) (fun z => Run sc n_J5_charAt_5068e 4 [aD p0, aI x1, v2, v3, v4] none [z] h) := by
  refine (s_go mt_J5_charAt_5068e dJ5_charAt_5068e_0 rfl).trans ?_
  exact q_getfield mt_J5_charAt_5068e dJ5_charAt_5068e_1 rfl
theorem e_J5_charAt_5068e_33 (sc : SC) (p0 : Nat) (x1 : Int32) (x2 : Int32) (p3 : Nat) (x4 : Int32) (h : AH) : Run sc n_J5_charAt_5068e 33 [aD p0, aI x1, aI x2, aD p3, aI x4] none [] h = bO (ldI sc h (fun t => t == 2 || t == 3) (aD p3) x1) (fun z => Run sc n_J5_charAt_5068e 36 [aD p0, aI x1, aI x2, aD p3, aI x4] none [aI z] h) := by
  refine (s_go mt_J5_charAt_5068e dJ5_charAt_5068e_33 rfl).trans ?_
  refine (s_go mt_J5_charAt_5068e dJ5_charAt_5068e_34 rfl).trans ?_
  exact q_baload mt_J5_charAt_5068e dJ5_charAt_5068e_35
theorem e_J5_charAt_5068e_4 (sc : SC) (p0 : Nat) (x1 : Int32) (v2 : AV) (v3 : AV) (v4 : AV) (y0 : Int32) (h : AH) : Run sc n_J5_charAt_5068e 4 [aD p0, aI x1, v2, v3, v4] none [aI y0] h = bF (getF sc h (aD p0) 1 0) (fun z => Run sc n_J5_charAt_5068e 9 [aD p0, aI x1, aI y0, v3, v4] none [z] h) := by
  refine (s_go mt_J5_charAt_5068e dJ5_charAt_5068e_4 rfl).trans ?_
  refine (s_go mt_J5_charAt_5068e dJ5_charAt_5068e_5 rfl).trans ?_
  exact q_getfield mt_J5_charAt_5068e dJ5_charAt_5068e_6 rfl
theorem e_J5_charAt_5068e_36 (sc : SC) (p0 : Nat) (x1 : Int32) (x2 : Int32) (p3 : Nat) (x4 : Int32) (y0 : Int32) (h : AH) : Run sc n_J5_charAt_5068e 36 [aD p0, aI x1, aI x2, aD p3, aI x4] none [aI y0] h = bI (retK (some FieldType.char) (((y0 &&& (nI 255)).toUInt32 % 65536).toInt32) = true) (some (.inl (some (aI (((y0 &&& (nI 255)).toUInt32 % 65536).toInt32))), h)) := by
  refine (s_go mt_J5_charAt_5068e dJ5_charAt_5068e_36 rfl).trans ?_
  refine (s_go mt_J5_charAt_5068e dJ5_charAt_5068e_39 rfl).trans ?_
  refine (s_go mt_J5_charAt_5068e dJ5_charAt_5068e_40 rfl).trans ?_
  exact q_iret mt_J5_charAt_5068e dJ5_charAt_5068e_41
theorem e_J5_charAt_5068e_9 (sc : SC) (p0 : Nat) (x1 : Int32) (x2 : Int32) (v3 : AV) (v4 : AV) (q0 : Nat) (h : AH) : Run sc n_J5_charAt_5068e 9 [aD p0, aI x1, aI x2, v3, v4] none [aD q0] h = bF (getF sc h (aD p0) 1 3) (fun z => Run sc n_J5_charAt_5068e 14 [aD p0, aI x1, aI x2, aD q0, v4] none [z] h) := by
  refine (s_go mt_J5_charAt_5068e dJ5_charAt_5068e_9 rfl).trans ?_
  refine (s_go mt_J5_charAt_5068e dJ5_charAt_5068e_10 rfl).trans ?_
  exact q_getfield mt_J5_charAt_5068e dJ5_charAt_5068e_11 rfl
theorem e_J5_charAt_5068e_14 (sc : SC) (p0 : Nat) (x1 : Int32) (x2 : Int32) (p3 : Nat) (v4 : AV) (y0 : Int32) (h : AH) : Run sc n_J5_charAt_5068e 14 [aD p0, aI x1, aI x2, aD p3, v4] none [aI y0] h = bO (lenA sc h (aD p3)) (fun z => Run sc n_J5_charAt_5068e 16 [aD p0, aI x1, aI x2, aD p3, v4] none [aI (nI z), aI y0] h) := by
  refine (s_go mt_J5_charAt_5068e dJ5_charAt_5068e_14 rfl).trans ?_
  exact q_alen mt_J5_charAt_5068e dJ5_charAt_5068e_15
theorem e_J5_charAt_5068e_16 (sc : SC) (p0 : Nat) (x1 : Int32) (x2 : Int32) (p3 : Nat) (v4 : AV) (y0 : Int32) (y1 : Int32) (h : AH) : Run sc n_J5_charAt_5068e 16 [aD p0, aI x1, aI x2, aD p3, v4] none [aI y1, aI y0] h = bC (Call sc n_J0_checkIndex_df160 [aI x1, aI (if (y1 >>> (x2 &&& 31)) < y0 then (y1 >>> (x2 &&& 31)) else y0)] h) (fun v z => Run sc n_J5_charAt_5068e 29 [aD p0, aI x1, aI x2, aD p3, aI (if (y1 >>> (x2 &&& 31)) < y0 then (y1 >>> (x2 &&& 31)) else y0)] none (v.toList ++ []) z) (fun E z => some (.inr E, z)) := by
  refine (s_go mt_J5_charAt_5068e dJ5_charAt_5068e_16 rfl).trans ?_
  refine (s_go mt_J5_charAt_5068e dJ5_charAt_5068e_17 rfl).trans ?_
  refine (s_go mt_J5_charAt_5068e dJ5_charAt_5068e_18 rfl).trans ?_
  refine (s_go mt_J5_charAt_5068e dJ5_charAt_5068e_21 rfl).trans ?_
  refine (s_go mt_J5_charAt_5068e dJ5_charAt_5068e_23 rfl).trans ?_
  refine (s_go mt_J5_charAt_5068e dJ5_charAt_5068e_24 rfl).trans ?_
  exact q_cS mt_J5_charAt_5068e dJ5_charAt_5068e_26 rfl mt_J0_checkIndex_df160 rfl rfl
theorem e_J5_charAt_5068e_29 (sc : SC) (p0 : Nat) (x1 : Int32) (x2 : Int32) (p3 : Nat) (x4 : Int32) (h : AH) : Run sc n_J5_charAt_5068e 29 [aD p0, aI x1, aI x2, aD p3, aI x4] none [] h = Run sc n_J5_charAt_5068e (if ¬ x2 = 0 then 42 else 33) [aD p0, aI x1, aI x2, aD p3, aI x4] none [] h := by
  refine (s_go mt_J5_charAt_5068e dJ5_charAt_5068e_29 rfl).trans ?_
  exact q_if mt_J5_charAt_5068e dJ5_charAt_5068e_30 (fun _ _ _ _ => rfl) rfl
/-! java/lang/StringBuilder.<init>()V -/
theorem e_J4_init_da8c8_0 (sc : SC) (p0 : Nat) (h : AH) : Run sc n_J4_init_da8c8 0 [aD p0] none [] h = bC (Call sc n_J5_init_d00df [aD p0, aI (nI 16)] h) (fun v z => Run sc n_J4_init_da8c8 6 [aD p0] none (v.toList ++ []) z) (fun _ _ => none) := by
  refine (s_go mt_J4_init_da8c8 dJ4_init_da8c8_0 rfl).trans ?_
  refine (s_go mt_J4_init_da8c8 dJ4_init_da8c8_1 rfl).trans ?_
  exact q_cI mt_J4_init_da8c8 dJ4_init_da8c8_3 rfl mt_J5_init_d00df rfl rfl rfl
theorem e_J4_init_da8c8_6 (sc : SC) (p0 : Nat) (h : AH) : Run sc n_J4_init_da8c8 6 [aD p0] none [] h = some (.inl none, h) := by
  exact q_ret (c := (none, h)) mt_J4_init_da8c8 dJ4_init_da8c8_6 rfl
/-! java/lang/StringBuilder.setLength(I)V -/
theorem e_J4_setLength_d00df_0 (sc : SC) (p0 : Nat) (x1 : Int32) (h : AH) : Run sc n_J4_setLength_d00df 0 [aD p0, aI x1] none [] h = bI (rOK sc h (aD p0) 1 = true) (bC (Call sc n_J5_setLength_d00df [aD p0, aI x1] h) (fun v z => Run sc n_J4_setLength_d00df 5 [aD p0, aI x1] none (v.toList ++ []) z) (fun _ _ => none)) := by
  refine (s_go mt_J4_setLength_d00df dJ4_setLength_d00df_0 rfl).trans ?_
  refine (s_go mt_J4_setLength_d00df dJ4_setLength_d00df_1 rfl).trans ?_
  exact q_cSU mt_J4_setLength_d00df dJ4_setLength_d00df_2 rfl mt_J5_setLength_d00df rfl rfl
theorem e_J4_setLength_d00df_5 (sc : SC) (p0 : Nat) (x1 : Int32) (h : AH) : Run sc n_J4_setLength_d00df 5 [aD p0, aI x1] none [] h = some (.inl none, h) := by
  exact q_ret (c := (none, h)) mt_J4_setLength_d00df dJ4_setLength_d00df_5 rfl
/-! java/lang/StringBuilder.append(C)Ljava/lang/StringBuilder; -/
theorem e_J4_append_cf468_0 (sc : SC) (p0 : Nat) (x1 : Int32) (h : AH) : Run sc n_J4_append_cf468 0 [aD p0, aI x1] none [] h = bI (rOK sc h (aD p0) 1 = true) (bC (Call sc n_J5_append_3fe6f [aD p0, aI x1] h) (fun v z => Run sc n_J4_append_cf468 5 [aD p0, aI x1] none (v.toList ++ []) z) (fun _ _ => none)) := by
  refine (s_go mt_J4_append_cf468 dJ4_append_cf468_0 rfl).trans ?_
  refine (s_go mt_J4_append_cf468 dJ4_append_cf468_1 rfl).trans ?_
  exact q_cSU mt_J4_append_cf468 dJ4_append_cf468_2 rfl mt_J5_append_3fe6f rfl rfl
theorem e_J4_append_cf468_5 (sc : SC) (p0 : Nat) (x1 : Int32) (q0 : Nat) (h : AH) : Run sc n_J4_append_cf468 5 [aD p0, aI x1] none [aD q0] h = some (.inl (some (aD p0)), h) := by
  refine (s_go mt_J4_append_cf468 dJ4_append_cf468_5 rfl).trans ?_
  refine (s_go mt_J4_append_cf468 dJ4_append_cf468_6 rfl).trans ?_
  exact q_ret (c := (some (aD p0), h)) mt_J4_append_cf468 dJ4_append_cf468_7 rfl
/-! java/lang/StringBuilder.append(Ljava/lang/String;)Ljava/lang/StringBuilder; -/
theorem e_J4_append_15ec4_0 (sc : SC) (p0 : Nat) (c1 : Nat) (h : AH) : Run sc n_J4_append_15ec4 0 [aD p0, aC c1] none [] h = bI (rOK sc h (aD p0) 1 = true) (bC (Call sc n_J5_append_cf1ce [aD p0, aC c1] h) (fun v z => Run sc n_J4_append_15ec4 5 [aD p0, aC c1] none (v.toList ++ []) z) (fun _ _ => none)) := by
  refine (s_go mt_J4_append_15ec4 dJ4_append_15ec4_0 rfl).trans ?_
  refine (s_go mt_J4_append_15ec4 dJ4_append_15ec4_1 rfl).trans ?_
  exact q_cSU mt_J4_append_15ec4 dJ4_append_15ec4_2 rfl mt_J5_append_cf1ce rfl rfl
theorem e_J4_append_15ec4_5 (sc : SC) (p0 : Nat) (c1 : Nat) (q0 : Nat) (h : AH) : Run sc n_J4_append_15ec4 5 [aD p0, aC c1] none [aD q0] h = some (.inl (some (aD p0)), h) := by
  refine (s_go mt_J4_append_15ec4 dJ4_append_15ec4_5 rfl).trans ?_
  refine (s_go mt_J4_append_15ec4 dJ4_append_15ec4_6 rfl).trans ?_
  exact q_ret (c := (some (aD p0), h)) mt_J4_append_15ec4 dJ4_append_15ec4_7 rfl
/-! java/lang/StringBuilder.length()I -/
theorem e_J4_length_8abf5_0 (sc : SC) (p0 : Nat) (h : AH) : Run sc n_J4_length_8abf5 0 [aD p0] none [] h = bI (rOK sc h (aD p0) 1 = true) (bC (Call sc n_J5_length_8abf5 [aD p0] h) (fun v z => Run sc n_J4_length_8abf5 4 [aD p0] none (v.toList ++ []) z) (fun _ _ => none)) := by
  refine (s_go mt_J4_length_8abf5 dJ4_length_8abf5_0 rfl).trans ?_
  exact q_cSU mt_J4_length_8abf5 dJ4_length_8abf5_1 rfl mt_J5_length_8abf5 rfl rfl
theorem e_J4_length_8abf5_4 (sc : SC) (p0 : Nat) (y0 : Int32) (h : AH) : Run sc n_J4_length_8abf5 4 [aD p0] none [aI y0] h = some (.inl (some (aI y0)), h) := by
  exact q_ret (c := (some (aI y0), h)) mt_J4_length_8abf5 dJ4_length_8abf5_4 rfl
/-! java/lang/StringBuilder.charAt(I)C -/
theorem e_J4_charAt_5068e_0 (sc : SC) (p0 : Nat) (x1 : Int32) (h : AH) : Run sc n_J4_charAt_5068e 0 [aD p0, aI x1] none [] h = bI (rOK sc h (aD p0) 1 = true) (bC (Call sc n_J5_charAt_5068e [aD p0, aI x1] h) (fun v z => Run sc n_J4_charAt_5068e 5 [aD p0, aI x1] none (v.toList ++ []) z) (fun _ _ => none)) := by
  refine (s_go mt_J4_charAt_5068e dJ4_charAt_5068e_0 rfl).trans ?_
  refine (s_go mt_J4_charAt_5068e dJ4_charAt_5068e_1 rfl).trans ?_
  exact q_cSU mt_J4_charAt_5068e dJ4_charAt_5068e_2 rfl mt_J5_charAt_5068e rfl rfl
theorem e_J4_charAt_5068e_5 (sc : SC) (p0 : Nat) (x1 : Int32) (y0 : Int32) (h : AH) : Run sc n_J4_charAt_5068e 5 [aD p0, aI x1] none [aI y0] h = bI (retK (some FieldType.char) y0 = true) (some (.inl (some (aI y0)), h)) := by
  exact q_iret mt_J4_charAt_5068e dJ4_charAt_5068e_5
/-! java/lang/String.coder()B -/
theorem e_J0_coder_7d493_0 (sc : SC) (c0 : Nat) (h : AH) : Run sc n_J0_coder_7d493 0 [aC c0] none [] h = Run sc n_J0_coder_7d493 (if (nI 1) = 0 then 13 else 6) [aC c0] none [] h := by
  refine (s_go mt_J0_coder_7d493 dJ0_coder_7d493_0 rfl).trans ?_
  exact q_if mt_J0_coder_7d493 dJ0_coder_7d493_3 (fun _ _ _ _ => rfl) rfl
theorem e_J0_coder_7d493_6 (sc : SC) (c0 : Nat) (h : AH) : Run sc n_J0_coder_7d493 6 [aC c0] none [] h = bF (getF sc h (aC c0) 101 1) (fun z => Run sc n_J0_coder_7d493 10 [aC c0] none [z] h) := by
  refine (s_go mt_J0_coder_7d493 dJ0_coder_7d493_6 rfl).trans ?_
  exact q_getfield mt_J0_coder_7d493 dJ0_coder_7d493_7 rfl
theorem e_J0_coder_7d493_13 (sc : SC) (c0 : Nat) (h : AH) : Run sc n_J0_coder_7d493 13 [aC c0] none [] h = Run sc n_J0_coder_7d493 14 [aC c0] none [aI (nI 1)] h := by
  refine (s_go mt_J0_coder_7d493 dJ0_coder_7d493_13 rfl).trans ?_
  exact rfl
theorem e_J0_coder_7d493_14 (sc : SC) (c0 : Nat) (y0 : Int32) (h : AH) : Run sc n_J0_coder_7d493 14 [aC c0] none [aI y0] h = bI (retK (some FieldType.byte) y0 = true) (some (.inl (some (aI y0)), h)) := by
  exact q_iret mt_J0_coder_7d493 dJ0_coder_7d493_14
theorem e_J0_coder_7d493_10 (sc : SC) (c0 : Nat) (y0 : Int32) (h : AH) : Run sc n_J0_coder_7d493 10 [aC c0] none [aI y0] h = Run sc n_J0_coder_7d493 14 [aC c0] none [aI y0] h := by
  refine (s_go mt_J0_coder_7d493 dJ0_coder_7d493_10 rfl).trans ?_
  exact rfl
/-! java/lang/String.length()I -/
theorem e_J0_length_8abf5_0 (sc : SC) (c0 : Nat) (h : AH) : Run sc n_J0_length_8abf5 0 [aC c0] none [] h = bF (getF sc h (aC c0) 101 0) (fun z => Run sc n_J0_length_8abf5 4 [aC c0] none [z] h) := by
  refine (s_go mt_J0_length_8abf5 dJ0_length_8abf5_0 rfl).trans ?_
  exact q_getfield mt_J0_length_8abf5 dJ0_length_8abf5_1 rfl
theorem e_J0_length_8abf5_4 (sc : SC) (c0 : Nat) (d0 : Nat) (h : AH) : Run sc n_J0_length_8abf5 4 [aC c0] none [aC d0] h = bO (lenA sc h (aC d0)) (fun z => Run sc n_J0_length_8abf5 5 [aC c0] none [aI (nI z)] h) := by
  exact q_alen mt_J0_length_8abf5 dJ0_length_8abf5_4
theorem e_J0_length_8abf5_5 (sc : SC) (c0 : Nat) (y0 : Int32) (h : AH) : Run sc n_J0_length_8abf5 5 [aC c0] none [aI y0] h = bI (rOK sc h (aC c0) 101 = true) (bC (Call sc n_J0_coder_7d493 [aC c0] h) (fun v z => Run sc n_J0_length_8abf5 9 [aC c0] none (v.toList ++ [aI y0]) z) (fun E z => some (.inr E, z))) := by
  refine (s_go mt_J0_length_8abf5 dJ0_length_8abf5_5 rfl).trans ?_
  exact q_cV mt_J0_length_8abf5 dJ0_length_8abf5_6 rfl mt_J0_coder_7d493 rfl rfl rfl
theorem e_J0_length_8abf5_9 (sc : SC) (c0 : Nat) (y0 : Int32) (y1 : Int32) (h : AH) : Run sc n_J0_length_8abf5 9 [aC c0] none [aI y1, aI y0] h = some (.inl (some (aI (y0 >>> (y1 &&& 31)))), h) := by
  refine (s_go mt_J0_length_8abf5 dJ0_length_8abf5_9 rfl).trans ?_
  exact q_ret (c := (some (aI (y0 >>> (y1 &&& 31))), h)) mt_J0_length_8abf5 dJ0_length_8abf5_10 rfl
/-! java/lang/String.isLatin1()Z -/
theorem e_J0_isLatin1_aae02_0 (sc : SC) (c0 : Nat) (h : AH) : Run sc n_J0_isLatin1_aae02 0 [aC c0] none [] h = Run sc n_J0_isLatin1_aae02 (if (nI 1) = 0 then 17 else 6) [aC c0] none [] h := by
  refine (s_go mt_J0_isLatin1_aae02 dJ0_isLatin1_aae02_0 rfl).trans ?_
  exact q_if mt_J0_isLatin1_aae02 dJ0_isLatin1_aae02_3 (fun _ _ _ _ => rfl) rfl
theorem e_J0_isLatin1_aae02_6 (sc : SC) (c0 : Nat) (h : AH) : Run sc n_J0_isLatin1_aae02 6 [aC c0] none [] h = bF (getF sc h (aC c0) 101 1) (fun z => Run sc n_J0_isLatin1_aae02 10 [aC c0] none [z] h) := by
  refine (s_go mt_J0_isLatin1_aae02 dJ0_isLatin1_aae02_6 rfl).trans ?_
  exact q_getfield mt_J0_isLatin1_aae02 dJ0_isLatin1_aae02_7 rfl
theorem e_J0_isLatin1_aae02_13 (sc : SC) (c0 : Nat) (h : AH) : Run sc n_J0_isLatin1_aae02 13 [aC c0] none [] h = Run sc n_J0_isLatin1_aae02 18 [aC c0] none [aI (nI 1)] h := by
  refine (s_go mt_J0_isLatin1_aae02 dJ0_isLatin1_aae02_13 rfl).trans ?_
  refine (s_go mt_J0_isLatin1_aae02 dJ0_isLatin1_aae02_14 rfl).trans ?_
  exact rfl
theorem e_J0_isLatin1_aae02_17 (sc : SC) (c0 : Nat) (h : AH) : Run sc n_J0_isLatin1_aae02 17 [aC c0] none [] h = Run sc n_J0_isLatin1_aae02 18 [aC c0] none [aI (nI 0)] h := by
  refine (s_go mt_J0_isLatin1_aae02 dJ0_isLatin1_aae02_17 rfl).trans ?_
  exact rfl
theorem e_J0_isLatin1_aae02_18 (sc : SC) (c0 : Nat) (y0 : Int32) (h : AH) : Run sc n_J0_isLatin1_aae02 18 [aC c0] none [aI y0] h = bI (retK (some FieldType.boolean) y0 = true) (some (.inl (some (aI y0)), h)) := by
  exact q_iret mt_J0_isLatin1_aae02 dJ0_isLatin1_aae02_18
theorem e_J0_isLatin1_aae02_10 (sc : SC) (c0 : Nat) (y0 : Int32) (h : AH) : Run sc n_J0_isLatin1_aae02 10 [aC c0] none [aI y0] h = Run sc n_J0_isLatin1_aae02 (if ¬ y0 = 0 then 17 else 13) [aC c0] none [] h := by
  exact q_if mt_J0_isLatin1_aae02 dJ0_isLatin1_aae02_10 (fun _ _ _ _ => rfl) rfl
/-! java/lang/String.checkIndex(II)V -/
theorem e_J0_checkIndex_df160_0 (sc : SC) (x0 : Int32) (x1 : Int32) (h : AH) : Run sc n_J0_checkIndex_df160 0 [aI x0, aI x1] none [] h = bC (Call sc n_J3_checkIndex_8e157 [aI x0, aI x1, aU] h) (fun v z => Run sc n_J0_checkIndex_df160 8 [aI x0, aI x1] none (v.toList ++ []) z) (fun E z => some (.inr E, z)) := by
  refine (s_go mt_J0_checkIndex_df160 dJ0_checkIndex_df160_0 rfl).trans ?_
  refine (s_go mt_J0_checkIndex_df160 dJ0_checkIndex_df160_1 rfl).trans ?_
  refine (s_go mt_J0_checkIndex_df160 dJ0_checkIndex_df160_2 rfl).trans ?_
  exact q_cS mt_J0_checkIndex_df160 dJ0_checkIndex_df160_5 rfl mt_J3_checkIndex_8e157 rfl rfl
theorem e_J0_checkIndex_df160_8 (sc : SC) (x0 : Int32) (x1 : Int32) (y0 : Int32) (h : AH) : Run sc n_J0_checkIndex_df160 8 [aI x0, aI x1] none [aI y0] h = some (.inl none, h) := by
  refine (s_go mt_J0_checkIndex_df160 dJ0_checkIndex_df160_8 rfl).trans ?_
  exact q_ret (c := (none, h)) mt_J0_checkIndex_df160 dJ0_checkIndex_df160_9 rfl
/-! java/lang/String.charAt(I)C -/
theorem e_J0_charAt_5068e_0 (sc : SC) (c0 : Nat) (x1 : Int32) (h : AH) : Run sc n_J0_charAt_5068e 0 [aC c0, aI x1] none [] h = bI (rOK sc h (aC c0) 101 = true) (bC (Call sc n_J0_isLatin1_aae02 [aC c0] h) (fun v z => Run sc n_J0_charAt_5068e 4 [aC c0, aI x1] none (v.toList ++ []) z) (fun E z => some (.inr E, z))) := by
  refine (s_go mt_J0_charAt_5068e dJ0_charAt_5068e_0 rfl).trans ?_
  exact q_cV mt_J0_charAt_5068e dJ0_charAt_5068e_1 rfl mt_J0_isLatin1_aae02 rfl rfl rfl
theorem e_J0_charAt_5068e_7 (sc : SC) (c0 : Nat) (x1 : Int32) (h : AH) : Run sc n_J0_charAt_5068e 7 [aC c0, aI x1] none [] h = bF (getF sc h (aC c0) 101 0) (fun z => Run sc n_J0_charAt_5068e 11 [aC c0, aI x1] none [z] h) := by
  refine (s_go mt_J0_charAt_5068e dJ0_charAt_5068e_7 rfl).trans ?_
  exact q_getfield mt_J0_charAt_5068e dJ0_charAt_5068e_8 rfl
theorem e_J0_charAt_5068e_16 (sc : SC) (c0 : Nat) (x1 : Int32) (h : AH) : Run sc n_J0_charAt_5068e 16 [aC c0, aI x1] none [] h = bF (getF sc h (aC c0) 101 0) (fun z => Run sc n_J0_charAt_5068e 20 [aC c0, aI x1] none [z] h) := by
  refine (s_go mt_J0_charAt_5068e dJ0_charAt_5068e_16 rfl).trans ?_
  exact q_getfield mt_J0_charAt_5068e dJ0_charAt_5068e_17 rfl
theorem e_J0_charAt_5068e_4 (sc : SC) (c0 : Nat) (x1 : Int32) (y0 : Int32) (h : AH) : Run sc n_J0_charAt_5068e 4 [aC c0, aI x1] none [aI y0] h = Run sc n_J0_charAt_5068e (if y0 = 0 then 16 else 7) [aC c0, aI x1] none [] h := by
  exact q_if mt_J0_charAt_5068e dJ0_charAt_5068e_4 (fun _ _ _ _ => rfl) rfl
theorem e_J0_charAt_5068e_11 (sc : SC) (c0 : Nat) (x1 : Int32) (d0 : Nat) (h : AH) : Run sc n_J0_charAt_5068e 11 [aC c0, aI x1] none [aC d0] h = bC (Call sc n_J1_charAt_3b067 [aC d0, aI x1] h) (fun v z => Run sc n_J0_charAt_5068e 15 [aC c0, aI x1] none (v.toList ++ []) z) (fun E z => some (.inr E, z)) := by
  refine (s_go mt_J0_charAt_5068e dJ0_charAt_5068e_11 rfl).trans ?_
  exact q_cS mt_J0_charAt_5068e dJ0_charAt_5068e_12 rfl mt_J1_charAt_3b067 rfl rfl
theorem e_J0_charAt_5068e_15 (sc : SC) (c0 : Nat) (x1 : Int32) (y0 : Int32) (h : AH) : Run sc n_J0_charAt_5068e 15 [aC c0, aI x1] none [aI y0] h = bI (retK (some FieldType.char) y0 = true) (some (.inl (some (aI y0)), h)) := by
  exact q_iret mt_J0_charAt_5068e dJ0_charAt_5068e_15
/-! java/lang/String.getBytes([BIB)V -/
theorem e_J0_getBytes_840e7_0 (sc : SC) (c0 : Nat) (p1 : Nat) (x2 : Int32) (x3 : Int32) (h : AH) : Run sc n_J0_getBytes_840e7 0 [aC c0, aD p1, aI x2, aI x3] none [] h = bI (rOK sc h (aC c0) 101 = true) (bC (Call sc n_J0_coder_7d493 [aC c0] h) (fun v z => Run sc n_J0_getBytes_840e7 4 [aC c0, aD p1, aI x2, aI x3] none (v.toList ++ []) z) (fun E z => some (.inr E, z))) := by
  refine (s_go mt_J0_getBytes_840e7 dJ0_getBytes_840e7_0 rfl).trans ?_
  exact q_cV mt_J0_getBytes_840e7 dJ0_getBytes_840e7_1 rfl mt_J0_coder_7d493 rfl rfl rfl
theorem e_J0_getBytes_840e7_8 (sc : SC) (c0 : Nat) (p1 : Nat) (x2 : Int32) (x3 : Int32) (h : AH) : Run sc n_J0_getBytes_840e7 8 [aC c0, aD p1, aI x2, aI x3] none [] h = bF (getF sc h (aC c0) 101 0) (fun z => Run sc n_J0_getBytes_840e7 12 [aC c0, aD p1, aI x2, aI x3] none [z] h) := by
  refine (s_go mt_J0_getBytes_840e7 dJ0_getBytes_840e7_8 rfl).trans ?_
  exact q_getfield mt_J0_getBytes_840e7 dJ0_getBytes_840e7_9 rfl
theorem e_J0_getBytes_840e7_28 (sc : SC) (c0 : Nat) (p1 : Nat) (x2 : Int32) (x3 : Int32) (h : AH) : Run sc n_J0_getBytes_840e7 28 [aC c0, aD p1, aI x2, aI x3] none [] h = bF (getF sc h (aC c0) 101 0) (fun z => Run sc n_J0_getBytes_840e7 32 [aC c0, aD p1, aI x2, aI x3] none [z] h) := by
  refine (s_go mt_J0_getBytes_840e7 dJ0_getBytes_840e7_28 rfl).trans ?_
  exact q_getfield mt_J0_getBytes_840e7 dJ0_getBytes_840e7_29 rfl
theorem e_J0_getBytes_840e7_43 (sc : SC) (c0 : Nat) (p1 : Nat) (x2 : Int32) (x3 : Int32) (h : AH) : Run sc n_J0_getBytes_840e7 43 [aC c0, aD p1, aI x2, aI x3] none [] h = some (.inl none, h) := by
  exact q_ret (c := (none, h)) mt_J0_getBytes_840e7 dJ0_getBytes_840e7_43 rfl
theorem e_J0_getBytes_840e7_4 (sc : SC) (c0 : Nat) (p1 : Nat) (x2 : Int32) (x3 : Int32) (y0 : Int32) (h : AH) : Run sc n_J0_getBytes_840e7 4 [aC c0, aD p1, aI x2, aI x3] none [aI y0] h = Run sc n_J0_getBytes_840e7 (if ¬ y0 = x3 then 28 else 8) [aC c0, aD p1, aI x2, aI x3] none [] h := by
  refine (s_go mt_J0_getBytes_840e7 dJ0_getBytes_840e7_4 rfl).trans ?_
  exact q_icmp mt_J0_getBytes_840e7 dJ0_getBytes_840e7_5 (fun _ _ _ _ => rfl) rfl
theorem e_J0_getBytes_840e7_12 (sc : SC) (c0 : Nat) (p1 : Nat) (x2 : Int32) (x3 : Int32) (d0 : Nat) (h : AH) : Run sc n_J0_getBytes_840e7 12 [aC c0, aD p1, aI x2, aI x3] none [aC d0] h = bF (getF sc h (aC c0) 101 0) (fun z => Run sc n_J0_getBytes_840e7 21 [aC c0, aD p1, aI x2, aI x3] none [z, aI (x2 <<< (x3 &&& 31)), aD p1, aI (nI 0), aC d0] h) := by
  refine (s_go mt_J0_getBytes_840e7 dJ0_getBytes_840e7_12 rfl).trans ?_
  refine (s_go mt_J0_getBytes_840e7 dJ0_getBytes_840e7_13 rfl).trans ?_
  refine (s_go mt_J0_getBytes_840e7 dJ0_getBytes_840e7_14 rfl).trans ?_
  refine (s_go mt_J0_getBytes_840e7 dJ0_getBytes_840e7_15 rfl).trans ?_
  refine (s_go mt_J0_getBytes_840e7 dJ0_getBytes_840e7_16 rfl).trans ?_
  refine (s_go mt_J0_getBytes_840e7 dJ0_getBytes_840e7_17 rfl).trans ?_
  exact q_getfield mt_J0_getBytes_840e7 dJ0_getBytes_840e7_18 rfl
theorem e_J0_getBytes_840e7_32 (sc : SC) (c0 : Nat) (p1 : Nat) (x2 : Int32) (x3 : Int32) (d0 : Nat) (h : AH) : Run sc n_J0_getBytes_840e7 32 [aC c0, aD p1, aI x2, aI x3] none [aC d0] h = bF (getF sc h (aC c0) 101 0) (fun z => Run sc n_J0_getBytes_840e7 39 [aC c0, aD p1, aI x2, aI x3] none [z, aI x2, aD p1, aI (nI 0), aC d0] h) := by
  refine (s_go mt_J0_getBytes_840e7 dJ0_getBytes_840e7_32 rfl).trans ?_
  refine (s_go mt_J0_getBytes_840e7 dJ0_getBytes_840e7_33 rfl).trans ?_
  refine (s_go mt_J0_getBytes_840e7 dJ0_getBytes_840e7_34 rfl).trans ?_
  refine (s_go mt_J0_getBytes_840e7 dJ0_getBytes_840e7_35 rfl).trans ?_
  exact q_getfield mt_J0_getBytes_840e7 dJ0_getBytes_840e7_36 rfl
theorem e_J0_getBytes_840e7_21 (sc : SC) (c0 : Nat) (p1 : Nat) (x2 : Int32) (x3 : Int32) (d0 : Nat) (y1 : Int32) (q2 : Nat) (y3 : Int32) (d4 : Nat) (h : AH) : Run sc n_J0_getBytes_840e7 21 [aC c0, aD p1, aI x2, aI x3] none [aC d4, aI y3, aD q2, aI y1, aC d0] h = bO (lenA sc h (aC d4)) (fun z => Run sc n_J0_getBytes_840e7 22 [aC c0, aD p1, aI x2, aI x3] none [aI (nI z), aI y3, aD q2, aI y1, aC d0] h) := by
  exact q_alen mt_J0_getBytes_840e7 dJ0_getBytes_840e7_21
theorem e_J0_getBytes_840e7_39 (sc : SC) (c0 : Nat) (p1 : Nat) (x2 : Int32) (x3 : Int32) (d0 : Nat) (y1 : Int32) (q2 : Nat) (y3 : Int32) (d4 : Nat) (h : AH) : Run sc n_J0_getBytes_840e7 39 [aC c0, aD p1, aI x2, aI x3] none [aC d4, aI y3, aD q2, aI y1, aC d0] h = bO (lenA sc h (aC d4)) (fun z => Run sc n_J0_getBytes_840e7 40 [aC c0, aD p1, aI x2, aI x3] none [aI (nI z), aI y3, aD q2, aI y1, aC d0] h) := by
  exact q_alen mt_J0_getBytes_840e7 dJ0_getBytes_840e7_39
theorem e_J0_getBytes_840e7_22 (sc : SC) (c0 : Nat) (p1 : Nat) (x2 : Int32) (x3 : Int32) (d0 : Nat) (y1 : Int32) (q2 : Nat) (y3 : Int32) (y4 : Int32) (h : AH) : Run sc n_J0_getBytes_840e7 22 [aC c0, aD p1, aI x2, aI x3] none [aI y4, aI y3, aD q2, aI y1, aC d0] h = bO (copyA sc h (aC d0) y1 q2 y3 y4) (fun z => Run sc n_J0_getBytes_840e7 25 [aC c0, aD p1, aI x2, aI x3] none [] z) := by
  exact q_copy mt_J0_getBytes_840e7 dJ0_getBytes_840e7_22 rfl (Nat.le_of_ble_eq_true rfl)
theorem e_J0_getBytes_840e7_40 (sc : SC) (c0 : Nat) (p1 : Nat) (x2 : Int32) (x3 : Int32) (d0 : Nat) (y1 : Int32) (q2 : Nat) (y3 : Int32) (y4 : Int32) (h : AH) : Run sc n_J0_getBytes_840e7 40 [aC c0, aD p1, aI x2, aI x3] none [aI y4, aI y3, aD q2, aI y1, aC d0] h = bC (Call sc n_J1_inflate_0e8fd [aC d0, aI y1, aD q2, aI y3, aI y4] h) (fun v z => Run sc n_J0_getBytes_840e7 43 [aC c0, aD p1, aI x2, aI x3] none (v.toList ++ []) z) (fun E z => some (.inr E, z)) := by
  exact q_cS mt_J0_getBytes_840e7 dJ0_getBytes_840e7_40 rfl mt_J1_inflate_0e8fd rfl rfl
theorem e_J0_getBytes_840e7_25 (sc : SC) (c0 : Nat) (p1 : Nat) (x2 : Int32) (x3 : Int32) (h : AH) : Run sc n_J0_getBytes_840e7 25 [aC c0, aD p1, aI x2, aI x3] none [] h = Run sc n_J0_getBytes_840e7 43 [aC c0, aD p1, aI x2, aI x3] none [] h := by
  refine (s_go mt_J0_getBytes_840e7 dJ0_getBytes_840e7_25 rfl).trans ?_
  exact rfl
/-! jdk/internal/util/Preconditions.checkIndex(IILjava/util/function/BiFunction;)I -/
theorem e_J3_checkIndex_8e157_0 (sc : SC) (x0 : Int32) (x1 : Int32) (h : AH) : Run sc n_J3_checkIndex_8e157 0 [aI x0, aI x1, aU] none [] h = Run sc n_J3_checkIndex_8e157 (if x0 < 0 then 9 else 4) [aI x0, aI x1, aU] none [] h := by
  refine (s_go mt_J3_checkIndex_8e157 dJ3_checkIndex_8e157_0 rfl).trans ?_
  exact q_if mt_J3_checkIndex_8e157 dJ3_checkIndex_8e157_1 (fun _ _ _ _ => rfl) rfl
theorem e_J3_checkIndex_8e157_4 (sc : SC) (x0 : Int32) (x1 : Int32) (h : AH) : Run sc n_J3_checkIndex_8e157 4 [aI x0, aI x1, aU] none [] h = Run sc n_J3_checkIndex_8e157 (if x0 < x1 then 16 else 9) [aI x0, aI x1, aU] none [] h := by
  refine (s_go mt_J3_checkIndex_8e157 dJ3_checkIndex_8e157_4 rfl).trans ?_
  refine (s_go mt_J3_checkIndex_8e157 dJ3_checkIndex_8e157_5 rfl).trans ?_
  exact q_icmp mt_J3_checkIndex_8e157 dJ3_checkIndex_8e157_6 (fun _ _ _ _ => rfl) rfl
theorem e_J3_checkIndex_8e157_9 (sc : SC) (x0 : Int32) (x1 : Int32) (h : AH) : Run sc n_J3_checkIndex_8e157 9 [aI x0, aI x1, aU] none [] h = bI (aObj aU = true) (Run sc n_J3_checkIndex_8e157 10 [aI x0, aI x1, aU] none [aU] h) := by
  exact q_aloadV (i := 2) (n := 1) (v := aU) mt_J3_checkIndex_8e157 dJ3_checkIndex_8e157_9 (fun _ _ _ _ => rfl) rfl
theorem e_J3_checkIndex_8e157_16 (sc : SC) (x0 : Int32) (x1 : Int32) (h : AH) : Run sc n_J3_checkIndex_8e157 16 [aI x0, aI x1, aU] none [] h = some (.inl (some (aI x0)), h) := by
  refine (s_go mt_J3_checkIndex_8e157 dJ3_checkIndex_8e157_16 rfl).trans ?_
  exact q_ret (c := (some (aI x0), h)) mt_J3_checkIndex_8e157 dJ3_checkIndex_8e157_17 rfl
/-! java/lang/StringLatin1.charAt([BI)C -/
theorem e_J1_charAt_3b067_0 (sc : SC) (v0 : AV) (x1 : Int32) (h : AH) : Run sc n_J1_charAt_3b067 0 [v0, aI x1] none [] h = bI (aObj v0 = true) (Run sc n_J1_charAt_3b067 2 [v0, aI x1] none [v0, aI x1] h) := by
  refine (s_go mt_J1_charAt_3b067 dJ1_charAt_3b067_0 rfl).trans ?_
  exact q_aloadV (i := 0) (n := 1) (v := v0) mt_J1_charAt_3b067 dJ1_charAt_3b067_1 (fun _ _ _ _ => rfl) rfl
theorem e_J1_charAt_3b067_2 (sc : SC) (v0 : AV) (x1 : Int32) (y0 : Int32) (w1 : AV) (h : AH) : Run sc n_J1_charAt_3b067 2 [v0, aI x1] none [w1, aI y0] h = bO (lenA sc h w1) (fun z => Run sc n_J1_charAt_3b067 3 [v0, aI x1] none [aI (nI z), aI y0] h) := by
  exact q_alen mt_J1_charAt_3b067 dJ1_charAt_3b067_2
theorem e_J1_charAt_3b067_3 (sc : SC) (v0 : AV) (x1 : Int32) (y0 : Int32) (y1 : Int32) (h : AH) : Run sc n_J1_charAt_3b067 3 [v0, aI x1] none [aI y1, aI y0] h = bC (Call sc n_J0_checkIndex_df160 [aI y0, aI y1] h) (fun v z => Run sc n_J1_charAt_3b067 6 [v0, aI x1] none (v.toList ++ []) z) (fun E z => some (.inr E, z)) := by
  exact q_cS mt_J1_charAt_3b067 dJ1_charAt_3b067_3 rfl mt_J0_checkIndex_df160 rfl rfl
theorem e_J1_charAt_3b067_6 (sc : SC) (v0 : AV) (x1 : Int32) (h : AH) : Run sc n_J1_charAt_3b067 6 [v0, aI x1] none [] h = bI (aObj v0 = true) (Run sc n_J1_charAt_3b067 7 [v0, aI x1] none [v0] h) := by
  exact q_aloadV (i := 0) (n := 1) (v := v0) mt_J1_charAt_3b067 dJ1_charAt_3b067_6 (fun _ _ _ _ => rfl) rfl
theorem e_J1_charAt_3b067_7 (sc : SC) (v0 : AV) (x1 : Int32) (w0 : AV) (h : AH) : Run sc n_J1_charAt_3b067 7 [v0, aI x1] none [w0] h = bO (ldI sc h (fun t => t == 2 || t == 3) w0 x1) (fun z => Run sc n_J1_charAt_3b067 9 [v0, aI x1] none [aI z] h) := by
  refine (s_go mt_J1_charAt_3b067 dJ1_charAt_3b067_7 rfl).trans ?_
  exact q_baload mt_J1_charAt_3b067 dJ1_charAt_3b067_8
theorem e_J1_charAt_3b067_9 (sc : SC) (v0 : AV) (x1 : Int32) (y0 : Int32) (h : AH) : Run sc n_J1_charAt_3b067 9 [v0, aI x1] none [aI y0] h = bI (retK (some FieldType.char) (((y0 &&& (nI 255)).toUInt32 % 65536).toInt32) = true) (some (.inl (some (aI (((y0 &&& (nI 255)).toUInt32 % 65536).toInt32))), h)) := by
  refine (s_go mt_J1_charAt_3b067 dJ1_charAt_3b067_9 rfl).trans ?_
  refine (s_go mt_J1_charAt_3b067 dJ1_charAt_3b067_12 rfl).trans ?_
  refine (s_go mt_J1_charAt_3b067 dJ1_charAt_3b067_13 rfl).trans ?_
  exact q_iret mt_J1_charAt_3b067 dJ1_charAt_3b067_14
/-! java/lang/StringLatin1.canEncode(C)Z -/
theorem e_J1_canEncode_fc78d_0 (sc : SC) (x0 : Int32) (h : AH) : Run sc n_J1_canEncode_fc78d 0 [aI x0] none [] h = Run sc n_J1_canEncode_fc78d (if (nI 255) < x0 then 11 else 7) [aI x0] none [] h := by
  refine (s_go mt_J1_canEncode_fc78d dJ1_canEncode_fc78d_0 rfl).trans ?_
  refine (s_go mt_J1_canEncode_fc78d dJ1_canEncode_fc78d_1 rfl).trans ?_
  exact q_icmp mt_J1_canEncode_fc78d dJ1_canEncode_fc78d_4 (fun _ _ _ _ => rfl) rfl
theorem e_J1_canEncode_fc78d_7 (sc : SC) (x0 : Int32) (h : AH) : Run sc n_J1_canEncode_fc78d 7 [aI x0] none [] h = Run sc n_J1_canEncode_fc78d 12 [aI x0] none [aI (nI 1)] h := by
  refine (s_go mt_J1_canEncode_fc78d dJ1_canEncode_fc78d_7 rfl).trans ?_
  refine (s_go mt_J1_canEncode_fc78d dJ1_canEncode_fc78d_8 rfl).trans ?_
  exact rfl
theorem e_J1_canEncode_fc78d_11 (sc : SC) (x0 : Int32) (h : AH) : Run sc n_J1_canEncode_fc78d 11 [aI x0] none [] h = Run sc n_J1_canEncode_fc78d 12 [aI x0] none [aI (nI 0)] h := by
  refine (s_go mt_J1_canEncode_fc78d dJ1_canEncode_fc78d_11 rfl).trans ?_
  exact rfl
theorem e_J1_canEncode_fc78d_12 (sc : SC) (x0 : Int32) (y0 : Int32) (h : AH) : Run sc n_J1_canEncode_fc78d 12 [aI x0] none [aI y0] h = bI (retK (some FieldType.boolean) y0 = true) (some (.inl (some (aI y0)), h)) := by
  exact q_iret mt_J1_canEncode_fc78d dJ1_canEncode_fc78d_12
/-! java/lang/StringLatin1.inflate([BI[BII)V -/
theorem e_J1_inflate_0e8fd_0 (sc : SC) (v0 : AV) (x1 : Int32) (v2 : AV) (x3 : Int32) (x4 : Int32) (h : AH) : Run sc n_J1_inflate_0e8fd 0 [v0, aI x1, v2, aI x3, aI x4] none [] h = bI (aObj v0 = true) (Run sc n_J1_inflate_0e8fd 1 [v0, aI x1, v2, aI x3, aI x4] none [v0] h) := by
  exact q_aloadV (i := 0) (n := 1) (v := v0) mt_J1_inflate_0e8fd dJ1_inflate_0e8fd_0 (fun _ _ _ _ => rfl) rfl
theorem e_J1_inflate_0e8fd_1 (sc : SC) (v0 : AV) (x1 : Int32) (v2 : AV) (x3 : Int32) (x4 : Int32) (w0 : AV) (h : AH) : Run sc n_J1_inflate_0e8fd 1 [v0, aI x1, v2, aI x3, aI x4] none [w0] h = bI (aObj v2 = true) (Run sc n_J1_inflate_0e8fd 3 [v0, aI x1, v2, aI x3, aI x4] none [v2, aI x1, w0] h) := by
  refine (s_go mt_J1_inflate_0e8fd dJ1_inflate_0e8fd_1 rfl).trans ?_
  exact q_aloadV (i := 2) (n := 1) (v := v2) mt_J1_inflate_0e8fd dJ1_inflate_0e8fd_2 (fun _ _ _ _ => rfl) rfl
/-! jdk/internal/util/ArraysSupport.newLength(III)I -/
theorem e_J8_newLength_cabcc_0 (sc : SC) (x0 : Int32) (x1 : Int32) (x2 : Int32) (v3 : AV) (h : AH) : Run sc n_J8_newLength_cabcc 0 [aI x0, aI x1, aI x2, v3] none [] h = Run sc n_J8_newLength_cabcc (if (x0 + (if x1 < x2 then x2 else x1)) ≤ (nI 0) then 21 else 13) [aI x0, aI x1, aI x2, aI (x0 + (if x1 < x2 then x2 else x1))] none [] h := by
  refine (s_go mt_J8_newLength_cabcc dJ8_newLength_cabcc_0 rfl).trans ?_
  refine (s_go mt_J8_newLength_cabcc dJ8_newLength_cabcc_1 rfl).trans ?_
  refine (s_go mt_J8_newLength_cabcc dJ8_newLength_cabcc_2 rfl).trans ?_
  refine (s_go mt_J8_newLength_cabcc dJ8_newLength_cabcc_3 rfl).trans ?_
  refine (s_go mt_J8_newLength_cabcc dJ8_newLength_cabcc_6 rfl).trans ?_
  refine (s_go mt_J8_newLength_cabcc dJ8_newLength_cabcc_7 rfl).trans ?_
  refine (s_go mt_J8_newLength_cabcc dJ8_newLength_cabcc_8 rfl).trans ?_
  refine (s_go mt_J8_newLength_cabcc dJ8_newLength_cabcc_9 rfl).trans ?_
  exact q_icmp mt_J8_newLength_cabcc dJ8_newLength_cabcc_10 (fun _ _ _ _ => rfl) rfl
theorem e_J8_newLength_cabcc_13 (sc : SC) (x0 : Int32) (x1 : Int32) (x2 : Int32) (x3 : Int32) (h : AH) : Run sc n_J8_newLength_cabcc 13 [aI x0, aI x1, aI x2, aI x3] none [] h = Run sc n_J8_newLength_cabcc (if (nI 2147483639) < x3 then 21 else 19) [aI x0, aI x1, aI x2, aI x3] none [] h := by
  refine (s_go mt_J8_newLength_cabcc dJ8_newLength_cabcc_13 rfl).trans ?_
  refine (s_go mt_J8_newLength_cabcc dJ8_newLength_cabcc_14 rfl).trans ?_
  exact q_icmp mt_J8_newLength_cabcc dJ8_newLength_cabcc_16 (fun _ _ _ _ => rfl) rfl
theorem e_J8_newLength_cabcc_19 (sc : SC) (x0 : Int32) (x1 : Int32) (x2 : Int32) (x3 : Int32) (h : AH) : Run sc n_J8_newLength_cabcc 19 [aI x0, aI x1, aI x2, aI x3] none [] h = some (.inl (some (aI x3)), h) := by
  refine (s_go mt_J8_newLength_cabcc dJ8_newLength_cabcc_19 rfl).trans ?_
  exact q_ret (c := (some (aI x3), h)) mt_J8_newLength_cabcc dJ8_newLength_cabcc_20 rfl
/-! java/util/Arrays.copyOf([BI)[B -/
theorem e_J7_copyOf_9075b_0 (sc : SC) (p0 : Nat) (x1 : Int32) (v2 : AV) (h : AH) : Run sc n_J7_copyOf_9075b 0 [aD p0, aI x1, v2] none [] h = bO (lenA sc h (aD p0)) (fun z => Run sc n_J7_copyOf_9075b 3 [aD p0, aI x1, v2] none [aI (nI z), aI x1] h) := by
  refine (s_go mt_J7_copyOf_9075b dJ7_copyOf_9075b_0 rfl).trans ?_
  refine (s_go mt_J7_copyOf_9075b dJ7_copyOf_9075b_1 rfl).trans ?_
  exact q_alen mt_J7_copyOf_9075b dJ7_copyOf_9075b_2
theorem e_J7_copyOf_9075b_14 (sc : SC) (p0 : Nat) (x1 : Int32) (v2 : AV) (h : AH) : Run sc n_J7_copyOf_9075b 14 [aD p0, aI x1, v2] none [] h = bI (¬ (x1 < 0 ∨ 67108864 < (x1).toNatClampNeg)) (Run sc n_J7_copyOf_9075b 17 [aD p0, aI x1, v2] none [aD h.1.length] (hpush h (oI 2 (x1).toNatClampNeg (fun _ => 0)))) := by
  refine (s_go mt_J7_copyOf_9075b dJ7_copyOf_9075b_14 rfl).trans ?_
  exact q_newarray (mk := fun m => oI 2 m (fun _ => 0)) mt_J7_copyOf_9075b dJ7_copyOf_9075b_15 (fun _ => rfl)
theorem e_J7_copyOf_9075b_3 (sc : SC) (p0 : Nat) (x1 : Int32) (v2 : AV) (y0 : Int32) (y1 : Int32) (h : AH) : Run sc n_J7_copyOf_9075b 3 [aD p0, aI x1, v2] none [aI y1, aI y0] h = Run sc n_J7_copyOf_9075b (if ¬ y0 = y1 then 14 else 6) [aD p0, aI x1, v2] none [] h := by
  exact q_icmp mt_J7_copyOf_9075b dJ7_copyOf_9075b_3 (fun _ _ _ _ => rfl) rfl
theorem e_J7_copyOf_9075b_17 (sc : SC) (p0 : Nat) (x1 : Int32) (v2 : AV) (q0 : Nat) (h : AH) : Run sc n_J7_copyOf_9075b 17 [aD p0, aI x1, v2] none [aD q0] h = bO (lenA sc h (aD p0)) (fun z => Run sc n_J7_copyOf_9075b 24 [aD p0, aI x1, aD q0] none [aI (nI z), aI (nI 0), aD q0, aI (nI 0), aD p0] h) := by
  refine (s_go mt_J7_copyOf_9075b dJ7_copyOf_9075b_17 rfl).trans ?_
  refine (s_go mt_J7_copyOf_9075b dJ7_copyOf_9075b_18 rfl).trans ?_
  refine (s_go mt_J7_copyOf_9075b dJ7_copyOf_9075b_19 rfl).trans ?_
  refine (s_go mt_J7_copyOf_9075b dJ7_copyOf_9075b_20 rfl).trans ?_
  refine (s_go mt_J7_copyOf_9075b dJ7_copyOf_9075b_21 rfl).trans ?_
  refine (s_go mt_J7_copyOf_9075b dJ7_copyOf_9075b_22 rfl).trans ?_
  exact q_alen mt_J7_copyOf_9075b dJ7_copyOf_9075b_23
theorem e_J7_copyOf_9075b_24 (sc : SC) (p0 : Nat) (x1 : Int32) (p2 : Nat) (q0 : Nat) (y1 : Int32) (q2 : Nat) (y3 : Int32) (y4 : Int32) (h : AH) : Run sc n_J7_copyOf_9075b 24 [aD p0, aI x1, aD p2] none [aI y4, aI y3, aD q2, aI y1, aD q0] h = bO (copyA sc h (aD q0) y1 q2 y3 (if x1 < y4 then x1 else y4)) (fun z => Run sc n_J7_copyOf_9075b 31 [aD p0, aI x1, aD p2] none [] z) := by
  refine (s_go mt_J7_copyOf_9075b dJ7_copyOf_9075b_24 rfl).trans ?_
  refine (s_go mt_J7_copyOf_9075b dJ7_copyOf_9075b_25 rfl).trans ?_
  exact q_copy mt_J7_copyOf_9075b dJ7_copyOf_9075b_28 rfl (Nat.le_of_ble_eq_true rfl)
theorem e_J7_copyOf_9075b_31 (sc : SC) (p0 : Nat) (x1 : Int32) (p2 : Nat) (h : AH) : Run sc n_J7_copyOf_9075b 31 [aD p0, aI x1, aD p2] none [] h = some (.inl (some (aD p2)), h) := by
  refine (s_go mt_J7_copyOf_9075b dJ7_copyOf_9075b_31 rfl).trans ?_
  exact q_ret (c := (some (aD p2), h)) mt_J7_copyOf_9075b dJ7_copyOf_9075b_32 rfl
/-! java/lang/Enum.ordinal()I -/
theorem e_Jx29ce0_ordinal_8abf5_0 (sc : SC) (c0 : Nat) (h : AH) : Run sc n_Jx29ce0_ordinal_8abf5 0 [aC c0] none [] h = bF (getF sc h (aC c0) 100 8) (fun z => Run sc n_Jx29ce0_ordinal_8abf5 4 [aC c0] none [z] h) := by
  refine (s_go mt_Jx29ce0_ordinal_8abf5 dJx29ce0_ordinal_8abf5_0 rfl).trans ?_
  exact q_getfield mt_Jx29ce0_ordinal_8abf5 dJx29ce0_ordinal_8abf5_1 rfl
theorem e_Jx29ce0_ordinal_8abf5_4 (sc : SC) (c0 : Nat) (y0 : Int32) (h : AH) : Run sc n_Jx29ce0_ordinal_8abf5 4 [aC c0] none [aI y0] h = some (.inl (some (aI y0)), h) := by
  exact q_ret (c := (some (aI y0), h)) mt_Jx29ce0_ordinal_8abf5 dJx29ce0_ordinal_8abf5_4 rfl
