/-! the methods' entries of the table -/
theorem mt_X6_init : MT n_X6_init = some mi_X6_init := rfl
theorem mt_X7_init : MT n_X7_init = some mi_X7_init := rfl
theorem mt_X8_init : MT n_X8_init = some mi_X8_init := rfl
theorem mt_X2_init : MT n_X2_init = some mi_X2_init := rfl
theorem mt_X1_init : MT n_X1_init = some mi_X1_init := rfl
theorem mt_X3_init : MT n_X3_init = some mi_X3_init := rfl
theorem mt_X5_init : MT n_X5_init = some mi_X5_init := rfl
theorem mt_X9_init : MT n_X9_init = some mi_X9_init := rfl
theorem mt_X10_init : MT n_X10_init = some mi_X10_init := rfl
theorem mt_X7_takes : MT n_X7_takes = some mi_X7_takes := rfl
theorem mt_X9_feed : MT n_X9_feed = some mi_X9_feed := rfl
theorem mt_L_feed : MT n_L_feed = some mi_L_feed := rfl
theorem mt_X10_fail : MT n_X10_fail = some mi_X10_fail := rfl
theorem mt_X10_feed : MT n_X10_feed = some mi_X10_feed := rfl
theorem mt_X10_thrown : MT n_X10_thrown = some mi_X10_thrown := rfl
theorem mt_J0_coder_7d493 : MT n_J0_coder_7d493 = some mi_J0_coder_7d493 := rfl
theorem mt_J0_length_8abf5 : MT n_J0_length_8abf5 = some mi_J0_length_8abf5 := rfl
theorem mt_J0_isLatin1_aae02 : MT n_J0_isLatin1_aae02 = some mi_J0_isLatin1_aae02 := rfl
theorem mt_J3_checkIndex_8e157 : MT n_J3_checkIndex_8e157 = some mi_J3_checkIndex_8e157 := rfl
theorem mt_J0_checkIndex_df160 : MT n_J0_checkIndex_df160 = some mi_J0_checkIndex_df160 := rfl
theorem mt_J1_charAt_3b067 : MT n_J1_charAt_3b067 = some mi_J1_charAt_3b067 := rfl
theorem mt_J0_charAt_5068e : MT n_J0_charAt_5068e = some mi_J0_charAt_5068e := rfl
theorem mt_X7_isWord : MT n_X7_isWord = some mi_X7_isWord := rfl
theorem mt_X7_readKind : MT n_X7_readKind = some mi_X7_readKind := rfl
theorem mt_X6_put : MT n_X6_put = some mi_X6_put := rfl
theorem mt_X6_appendKind : MT n_X6_appendKind = some mi_X6_appendKind := rfl
theorem mt_X4_sign : MT n_X4_sign = some mi_X4_sign := rfl
theorem mt_X7_passes : MT n_X7_passes = some mi_X7_passes := rfl
theorem mt_X7_isDigitNext : MT n_X7_isDigitNext = some mi_X7_isDigitNext := rfl
theorem mt_X7_readsNumber : MT n_X7_readsNumber = some mi_X7_readsNumber := rfl
theorem mt_X7_readsInstruction : MT n_X7_readsInstruction = some mi_X7_readsInstruction := rfl
theorem mt_X7_readsText : MT n_X7_readsText = some mi_X7_readsText := rfl
theorem mt_X6_part : MT n_X6_part = some mi_X6_part := rfl
theorem mt_X6_kind : MT n_X6_kind = some mi_X6_kind := rfl
theorem mt_X7_greatest : MT n_X7_greatest = some mi_X7_greatest := rfl
theorem mt_X7_isInRange : MT n_X7_isInRange = some mi_X7_isInRange := rfl
theorem mt_X6_isBranch : MT n_X6_isBranch = some mi_X6_isBranch := rfl
theorem mt_X6_target : MT n_X6_target = some mi_X6_target := rfl
theorem mt_X6_appendAll : MT n_X6_appendAll = some mi_X6_appendAll := rfl
theorem mt_X9_parse : MT n_X9_parse = some mi_X9_parse := rfl
theorem mt_L_parse : MT n_L_parse = some mi_L_parse := rfl
theorem mt_X10_isIn : MT n_X10_isIn = some mi_X10_isIn := rfl
theorem mt_X10_letterAt : MT n_X10_letterAt = some mi_X10_letterAt := rfl
theorem mt_X10_isName : MT n_X10_isName = some mi_X10_isName := rfl
theorem mt_X10_kindAt : MT n_X10_kindAt = some mi_X10_kindAt := rfl
theorem mt_X10_fault : MT n_X10_fault = some mi_X10_fault := rfl
theorem mt_X10_nameLength : MT n_X10_nameLength = some mi_X10_nameLength := rfl
theorem mt_X10_operandsOf : MT n_X10_operandsOf = some mi_X10_operandsOf := rfl
theorem mt_X10_sign : MT n_X10_sign = some mi_X10_sign := rfl
theorem mt_X10_isDigit : MT n_X10_isDigit = some mi_X10_isDigit := rfl
theorem mt_X10_readOperand : MT n_X10_readOperand = some mi_X10_readOperand := rfl
theorem mt_X10_readInstruction : MT n_X10_readInstruction = some mi_X10_readInstruction := rfl
theorem mt_X10_isBranch : MT n_X10_isBranch = some mi_X10_isBranch := rfl
theorem mt_X10_isGood : MT n_X10_isGood = some mi_X10_isGood := rfl
theorem mt_X10_parse : MT n_X10_parse = some mi_X10_parse := rfl
theorem mt_X9_clear : MT n_X9_clear = some mi_X9_clear := rfl
theorem mt_X10_clear : MT n_X10_clear = some mi_X10_clear := rfl
theorem mt_X9_instructions : MT n_X9_instructions = some mi_X9_instructions := rfl
theorem mt_X10_instructions : MT n_X10_instructions = some mi_X10_instructions := rfl
theorem mt_X6_has : MT n_X6_has = some mi_X6_has := rfl
theorem mt_X9_instruction : MT n_X9_instruction = some mi_X9_instruction := rfl
theorem mt_L_instruction : MT n_L_instruction = some mi_L_instruction := rfl
theorem mt_X10_instruction : MT n_X10_instruction = some mi_X10_instruction := rfl
theorem mt_X6_copyFrom : MT n_X6_copyFrom = some mi_X6_copyFrom := rfl
theorem mt_X3_remember : MT n_X3_remember = some mi_X3_remember := rfl
theorem mt_X6_entryOf : MT n_X6_entryOf = some mi_X6_entryOf := rfl
theorem mt_X6_expandFrom : MT n_X6_expandFrom = some mi_X6_expandFrom := rfl
theorem mt_X9_expand : MT n_X9_expand = some mi_X9_expand := rfl
theorem mt_X10_remember : MT n_X10_remember = some mi_X10_remember := rfl
theorem mt_X10_entryOf : MT n_X10_entryOf = some mi_X10_entryOf := rfl
theorem mt_X10_put : MT n_X10_put = some mi_X10_put := rfl
theorem mt_X10_expand : MT n_X10_expand = some mi_X10_expand := rfl
theorem mt_X9_entries : MT n_X9_entries = some mi_X9_entries := rfl
theorem mt_X10_entryMany : MT n_X10_entryMany = some mi_X10_entryMany := rfl
theorem mt_X10_entries : MT n_X10_entries = some mi_X10_entries := rfl
theorem mt_X6_isSlot : MT n_X6_isSlot = some mi_X6_isSlot := rfl
theorem mt_X6_branchesTo : MT n_X6_branchesTo = some mi_X6_branchesTo := rfl
theorem mt_X9_entry : MT n_X9_entry = some mi_X9_entry := rfl
theorem mt_L_entry : MT n_L_entry = some mi_L_entry := rfl
theorem mt_X10_isEntry : MT n_X10_isEntry = some mi_X10_isEntry := rfl
theorem mt_X10_at : MT n_X10_at = some mi_X10_at := rfl
theorem mt_X10_isSlot : MT n_X10_isSlot = some mi_X10_isSlot := rfl
theorem mt_X10_targeted : MT n_X10_targeted = some mi_X10_targeted := rfl
theorem mt_X10_entry : MT n_X10_entry = some mi_X10_entry := rfl
theorem mt_X6_branches : MT n_X6_branches = some mi_X6_branches := rfl
theorem mt_X6_hasEmptySlot : MT n_X6_hasEmptySlot = some mi_X6_hasEmptySlot := rfl
theorem mt_X6_emptySlots : MT n_X6_emptySlots = some mi_X6_emptySlots := rfl
theorem mt_X6_annullingBranches : MT n_X6_annullingBranches = some mi_X6_annullingBranches := rfl
theorem mt_X6_nops : MT n_X6_nops = some mi_X6_nops := rfl
theorem mt_X2_reach : MT n_X2_reach = some mi_X2_reach := rfl
theorem mt_X2_growReached : MT n_X2_growReached = some mi_X2_growReached := rfl
theorem mt_X2_unreachable : MT n_X2_unreachable = some mi_X2_unreachable := rfl
theorem mt_X9_count : MT n_X9_count = some mi_X9_count := rfl
theorem mt_L_count : MT n_L_count = some mi_L_count := rfl
theorem mt_X10_meet : MT n_X10_meet = some mi_X10_meet := rfl
theorem mt_X10_findReached : MT n_X10_findReached = some mi_X10_findReached := rfl
theorem mt_X10_count : MT n_X10_count = some mi_X10_count := rfl
theorem mt_X6_reads : MT n_X6_reads = some mi_X6_reads := rfl
theorem mt_X6_writes : MT n_X6_writes = some mi_X6_writes := rfl
theorem mt_X2_liveThrough : MT n_X2_liveThrough = some mi_X2_liveThrough := rfl
theorem mt_X6_isAnnulling : MT n_X6_isAnnulling = some mi_X6_isAnnulling := rfl
theorem mt_X2_liveFromFollowing : MT n_X2_liveFromFollowing = some mi_X2_liveFromFollowing := rfl
theorem mt_X2_liveBefore : MT n_X2_liveBefore = some mi_X2_liveBefore := rfl
theorem mt_X9_live : MT n_X9_live = some mi_X9_live := rfl
theorem mt_L_live : MT n_L_live = some mi_L_live := rfl
theorem mt_X10_reads : MT n_X10_reads = some mi_X10_reads := rfl
theorem mt_X10_writes : MT n_X10_writes = some mi_X10_writes := rfl
theorem mt_X10_through : MT n_X10_through = some mi_X10_through := rfl
theorem mt_X10_liveNow : MT n_X10_liveNow = some mi_X10_liveNow := rfl
theorem mt_X10_findLives : MT n_X10_findLives = some mi_X10_findLives := rfl
theorem mt_X10_live : MT n_X10_live = some mi_X10_live := rfl
theorem mt_X4_isMemoryAccess : MT n_X4_isMemoryAccess = some mi_X4_isMemoryAccess := rfl
theorem mt_X6_areIndependent : MT n_X6_areIndependent = some mi_X6_areIndependent := rfl
theorem mt_X9_isIndependent : MT n_X9_isIndependent = some mi_X9_isIndependent := rfl
theorem mt_L_isIndependent : MT n_L_isIndependent = some mi_L_isIndependent := rfl
theorem mt_X10_areIndependent : MT n_X10_areIndependent = some mi_X10_areIndependent := rfl
theorem mt_X10_isIndependent : MT n_X10_isIndependent = some mi_X10_isIndependent := rfl
theorem mt_X9_isWay : MT n_X9_isWay = some mi_X9_isWay := rfl
theorem mt_X4_canFill : MT n_X4_canFill = some mi_X4_canFill := rfl
theorem mt_X1_canPass : MT n_X1_canPass = some mi_X1_canPass := rfl
theorem mt_X1_findBefore : MT n_X1_findBefore = some mi_X1_findBefore := rfl
theorem mt_X1_findAtTarget : MT n_X1_findAtTarget = some mi_X1_findAtTarget := rfl
theorem mt_X1_findInFallThrough : MT n_X1_findInFallThrough = some mi_X1_findInFallThrough := rfl
theorem mt_X1_find : MT n_X1_find = some mi_X1_find := rfl
theorem mt_X9_candidate : MT n_X9_candidate = some mi_X9_candidate := rfl
theorem mt_L_candidate : MT n_L_candidate = some mi_L_candidate := rfl
theorem mt_X10_beforeCandidate : MT n_X10_beforeCandidate = some mi_X10_beforeCandidate := rfl
theorem mt_X10_isPlain : MT n_X10_isPlain = some mi_X10_isPlain := rfl
theorem mt_X10_targetCandidate : MT n_X10_targetCandidate = some mi_X10_targetCandidate := rfl
theorem mt_X10_fallCandidate : MT n_X10_fallCandidate = some mi_X10_fallCandidate := rfl
theorem mt_X10_candidateOf : MT n_X10_candidateOf = some mi_X10_candidateOf := rfl
theorem mt_X10_problem : MT n_X10_problem = some mi_X10_problem := rfl
theorem mt_X10_candidate : MT n_X10_candidate = some mi_X10_candidate := rfl
theorem mt_X6_copyInstruction : MT n_X6_copyInstruction = some mi_X6_copyInstruction := rfl
theorem mt_X6_remove : MT n_X6_remove = some mi_X6_remove := rfl
theorem mt_X1_move : MT n_X1_move = some mi_X1_move := rfl
theorem mt_X9_fill : MT n_X9_fill = some mi_X9_fill := rfl
theorem mt_L_fill : MT n_L_fill = some mi_L_fill := rfl
theorem mt_X10_take : MT n_X10_take = some mi_X10_take := rfl
theorem mt_X10_doFill : MT n_X10_doFill = some mi_X10_doFill := rfl
theorem mt_X10_fill : MT n_X10_fill = some mi_X10_fill := rfl
theorem mt_X1_fillEach : MT n_X1_fillEach = some mi_X1_fillEach := rfl
theorem mt_X9_fillAll : MT n_X9_fillAll = some mi_X9_fillAll := rfl
theorem mt_L_fillAll : MT n_L_fillAll = some mi_L_fillAll := rfl
theorem mt_X10_fillAll : MT n_X10_fillAll = some mi_X10_fillAll := rfl
theorem mt_X3_takeBack : MT n_X3_takeBack = some mi_X3_takeBack := rfl
theorem mt_X9_undo : MT n_X9_undo = some mi_X9_undo := rfl
theorem mt_L_undo : MT n_L_undo = some mi_L_undo := rfl
theorem mt_X10_undo : MT n_X10_undo = some mi_X10_undo := rfl
theorem mt_X8_append : MT n_X8_append = some mi_X8_append := rfl
theorem mt_X8_writeNumber : MT n_X8_writeNumber = some mi_X8_writeNumber := rfl
theorem mt_X8_writeInstruction : MT n_X8_writeInstruction = some mi_X8_writeInstruction := rfl
theorem mt_X8_writeProgram : MT n_X8_writeProgram = some mi_X8_writeProgram := rfl
theorem mt_X9_write : MT n_X9_write = some mi_X9_write := rfl
theorem mt_X10_add : MT n_X10_add = some mi_X10_add := rfl
theorem mt_X10_addName : MT n_X10_addName = some mi_X10_addName := rfl
theorem mt_X10_addKind : MT n_X10_addKind = some mi_X10_addKind := rfl
theorem mt_X10_addNumber : MT n_X10_addNumber = some mi_X10_addNumber := rfl
theorem mt_X10_write : MT n_X10_write = some mi_X10_write := rfl
theorem mt_X9_text : MT n_X9_text = some mi_X9_text := rfl
theorem mt_L_text : MT n_L_text = some mi_L_text := rfl
theorem mt_X10_text : MT n_X10_text = some mi_X10_text := rfl
theorem mt_X9_placeOf : MT n_X9_placeOf = some mi_X9_placeOf := rfl
theorem mt_X9_setInitial : MT n_X9_setInitial = some mi_X9_setInitial := rfl
theorem mt_L_setInitial : MT n_L_setInitial = some mi_L_setInitial := rfl
theorem mt_X10_placeOf : MT n_X10_placeOf = some mi_X10_placeOf := rfl
theorem mt_X10_setInitial : MT n_X10_setInitial = some mi_X10_setInitial := rfl
theorem mt_X5_conditionHolds : MT n_X5_conditionHolds = some mi_X5_conditionHolds := rfl
theorem mt_Jx29ce0_ordinal_8abf5 : MT n_Jx29ce0_ordinal_8abf5 = some mi_Jx29ce0_ordinal_8abf5 := rfl
theorem mt_X5_cellPlace : MT n_X5_cellPlace = some mi_X5_cellPlace := rfl
theorem mt_X5_perform : MT n_X5_perform = some mi_X5_perform := rfl
theorem mt_X5_executes : MT n_X5_executes = some mi_X5_executes := rfl
theorem mt_X9_run : MT n_X9_run = some mi_X9_run := rfl
theorem mt_L_run : MT n_L_run = some mi_L_run := rfl
theorem mt_X10_partOf : MT n_X10_partOf = some mi_X10_partOf := rfl
theorem mt_X10_execute : MT n_X10_execute = some mi_X10_execute := rfl
theorem mt_X10_isTaken : MT n_X10_isTaken = some mi_X10_isTaken := rfl
theorem mt_X10_runs : MT n_X10_runs = some mi_X10_runs := rfl
theorem mt_X10_run : MT n_X10_run = some mi_X10_run := rfl
theorem mt_X9_checkKept : MT n_X9_checkKept = some mi_X9_checkKept := rfl
theorem mt_X9_finalValue : MT n_X9_finalValue = some mi_X9_finalValue := rfl
theorem mt_L_finalValue : MT n_L_finalValue = some mi_L_finalValue := rfl
theorem mt_X10_finalValue : MT n_X10_finalValue = some mi_X10_finalValue := rfl
theorem mt_X9_outputs : MT n_X9_outputs = some mi_X9_outputs := rfl
theorem mt_L_outputs : MT n_L_outputs = some mi_L_outputs := rfl
theorem mt_X10_outputs : MT n_X10_outputs = some mi_X10_outputs := rfl
theorem mt_X9_output : MT n_X9_output = some mi_X9_output := rfl
theorem mt_L_output : MT n_L_output = some mi_L_output := rfl
theorem mt_X10_output : MT n_X10_output = some mi_X10_output := rfl
theorem mt_X9_checkDrawn : MT n_X9_checkDrawn = some mi_X9_checkDrawn := rfl
theorem mt_X9_drawInitial : MT n_X9_drawInitial = some mi_X9_drawInitial := rfl
theorem mt_X5_hasEffectsOf : MT n_X5_hasEffectsOf = some mi_X5_hasEffectsOf := rfl
theorem mt_X9_differences : MT n_X9_differences = some mi_X9_differences := rfl
theorem mt_L_differences : MT n_L_differences = some mi_L_differences := rfl
theorem mt_X10_draw : MT n_X10_draw = some mi_X10_draw := rfl
theorem mt_X10_runsDrawn : MT n_X10_runsDrawn = some mi_X10_runsDrawn := rfl
theorem mt_X10_isDifferent : MT n_X10_isDifferent = some mi_X10_isDifferent := rfl
theorem mt_X10_differences : MT n_X10_differences = some mi_X10_differences := rfl
theorem mt_X9_meanSteps : MT n_X9_meanSteps = some mi_X9_meanSteps := rfl
theorem mt_L_meanSteps : MT n_L_meanSteps = some mi_L_meanSteps := rfl
theorem mt_X10_meanSteps : MT n_X10_meanSteps = some mi_X10_meanSteps := rfl
theorem mt_X9_filledShare : MT n_X9_filledShare = some mi_X9_filledShare := rfl
theorem mt_L_filledShare : MT n_L_filledShare = some mi_L_filledShare := rfl
theorem mt_X10_filledShare : MT n_X10_filledShare = some mi_X10_filledShare := rfl
theorem mt_X9_save : MT n_X9_save = some mi_X9_save := rfl
theorem mt_X10_pass : MT n_X10_pass = some mi_X10_pass := rfl
theorem mt_X10_save : MT n_X10_save = some mi_X10_save := rfl
theorem mt_X9_restore : MT n_X9_restore = some mi_X9_restore := rfl
theorem mt_L_restore : MT n_L_restore = some mi_L_restore := rfl
theorem mt_X10_restore : MT n_X10_restore = some mi_X10_restore := rfl
theorem mt_L_law : MT n_L_law = some mi_L_law := rfl
/-! java/lang/String.coder()B -/
theorem e_J0_coder_7d493_0 (sc : SC) (c0 : Nat) (h : AH) : Run sc n_J0_coder_7d493 0 [aC c0] none [] h = Run sc n_J0_coder_7d493 (if (nI 1) = 0 then 13 else 6) [aC c0] none [] h := by
  refine (s_go mt_J0_coder_7d493 dJ0_coder_7d493_0 rfl).trans ?_
  exact q_if mt_J0_coder_7d493 dJ0_coder_7d493_3 (fun _ _ _ _ => rfl) rfl
theorem e_J0_coder_7d493_6 (sc : SC) (c0 : Nat) (h : AH) : Run sc n_J0_coder_7d493 6 [aC c0] none [] h = bF (getF sc h (aC c0) 101 1) (fun z => Run sc n_J0_coder_7d493 10 [aC c0] none [z] h) := by
  refine (s_go mt_J0_coder_7d493 dJ0_coder_7d493_6 rfl).trans ?_
  exact q_getfield mt_J0_coder_7d493 dJ0_coder_7d493_7 rfl
theorem e_J0_coder_7d493_13 (sc : SC) (c0 : Nat) (h : AH) : Run sc n_J0_coder_7d493 13 [aC c0] none [] h = Run sc n_J0_coder_7d493 14 [aC c0] none [aI (nI 1)] h := by
  refine (s_go mt_J0_coder_7d493 dJ0_coder_7d493_13 rfl).trans ?_
  exact rfl
theorem e_J0_coder_7d493_14 (sc : SC) (c0 : Nat) (y0 : Int32) (h : AH) : Run sc n_J0_coder_7d493 14 [aC c0] none [aI y0] h = bI (retK (some FieldType.byte) y0 = true) (some (.inl (some (aI y0)), h)) := by
  exact q_iret mt_J0_coder_7d493 dJ0_coder_7d493_14
theorem e_J0_coder_7d493_10 (sc : SC) (c0 : Nat) (y0 : Int32) (h : AH) : Run sc n_J0_coder_7d493 10 [aC c0] none [aI y0] h = Run sc n_J0_coder_7d493 14 [aC c0] none [aI y0] h := by
  refine (s_go mt_J0_coder_7d493 dJ0_coder_7d493_10 rfl).trans ?_
  exact rfl
/-! java/lang/String.length()I -/
theorem e_J0_length_8abf5_0 (sc : SC) (c0 : Nat) (h : AH) : Run sc n_J0_length_8abf5 0 [aC c0] none [] h = bF (getF sc h (aC c0) 101 0) (fun z => Run sc n_J0_length_8abf5 4 [aC c0] none [z] h) := by
  refine (s_go mt_J0_length_8abf5 dJ0_length_8abf5_0 rfl).trans ?_
  exact q_getfield mt_J0_length_8abf5 dJ0_length_8abf5_1 rfl
theorem e_J0_length_8abf5_4 (sc : SC) (c0 : Nat) (d0 : Nat) (h : AH) : Run sc n_J0_length_8abf5 4 [aC c0] none [aC d0] h = bO (lenA sc h (aC d0)) (fun z => Run sc n_J0_length_8abf5 5 [aC c0] none [aI (nI z)] h) := by
  exact q_alen mt_J0_length_8abf5 dJ0_length_8abf5_4
theorem e_J0_length_8abf5_5 (sc : SC) (c0 : Nat) (y0 : Int32) (h : AH) : Run sc n_J0_length_8abf5 5 [aC c0] none [aI y0] h = bI (rOK sc h (aC c0) 101 = true) (bC (Call sc n_J0_coder_7d493 [aC c0] h) (fun v z => Run sc n_J0_length_8abf5 9 [aC c0] none (v.toList ++ [aI y0]) z) (fun E z => some (.inr E, z))) := by
  refine (s_go mt_J0_length_8abf5 dJ0_length_8abf5_5 rfl).trans ?_
  exact q_cV mt_J0_length_8abf5 dJ0_length_8abf5_6 rfl mt_J0_coder_7d493 rfl rfl rfl
theorem e_J0_length_8abf5_9 (sc : SC) (c0 : Nat) (y0 : Int32) (y1 : Int32) (h : AH) : Run sc n_J0_length_8abf5 9 [aC c0] none [aI y1, aI y0] h = some (.inl (some (aI (y0 >>> (y1 &&& 31)))), h) := by
  refine (s_go mt_J0_length_8abf5 dJ0_length_8abf5_9 rfl).trans ?_
  exact q_ret (c := (some (aI (y0 >>> (y1 &&& 31))), h)) mt_J0_length_8abf5 dJ0_length_8abf5_10 rfl
/-! java/lang/String.isLatin1()Z -/
theorem e_J0_isLatin1_aae02_0 (sc : SC) (c0 : Nat) (h : AH) : Run sc n_J0_isLatin1_aae02 0 [aC c0] none [] h = Run sc n_J0_isLatin1_aae02 (if (nI 1) = 0 then 17 else 6) [aC c0] none [] h := by
  refine (s_go mt_J0_isLatin1_aae02 dJ0_isLatin1_aae02_0 rfl).trans ?_
  exact q_if mt_J0_isLatin1_aae02 dJ0_isLatin1_aae02_3 (fun _ _ _ _ => rfl) rfl
theorem e_J0_isLatin1_aae02_6 (sc : SC) (c0 : Nat) (h : AH) : Run sc n_J0_isLatin1_aae02 6 [aC c0] none [] h = bF (getF sc h (aC c0) 101 1) (fun z => Run sc n_J0_isLatin1_aae02 10 [aC c0] none [z] h) := by
  refine (s_go mt_J0_isLatin1_aae02 dJ0_isLatin1_aae02_6 rfl).trans ?_
  exact q_getfield mt_J0_isLatin1_aae02 dJ0_isLatin1_aae02_7 rfl
theorem e_J0_isLatin1_aae02_13 (sc : SC) (c0 : Nat) (h : AH) : Run sc n_J0_isLatin1_aae02 13 [aC c0] none [] h = Run sc n_J0_isLatin1_aae02 18 [aC c0] none [aI (nI 1)] h := by
  refine (s_go mt_J0_isLatin1_aae02 dJ0_isLatin1_aae02_13 rfl).trans ?_
  refine (s_go mt_J0_isLatin1_aae02 dJ0_isLatin1_aae02_14 rfl).trans ?_
  exact rfl
theorem e_J0_isLatin1_aae02_17 (sc : SC) (c0 : Nat) (h : AH) : Run sc n_J0_isLatin1_aae02 17 [aC c0] none [] h = Run sc n_J0_isLatin1_aae02 18 [aC c0] none [aI (nI 0)] h := by
  refine (s_go mt_J0_isLatin1_aae02 dJ0_isLatin1_aae02_17 rfl).trans ?_
  exact rfl
theorem e_J0_isLatin1_aae02_18 (sc : SC) (c0 : Nat) (y0 : Int32) (h : AH) : Run sc n_J0_isLatin1_aae02 18 [aC c0] none [aI y0] h = bI (retK (some FieldType.boolean) y0 = true) (some (.inl (some (aI y0)), h)) := by
  exact q_iret mt_J0_isLatin1_aae02 dJ0_isLatin1_aae02_18
theorem e_J0_isLatin1_aae02_10 (sc : SC) (c0 : Nat) (y0 : Int32) (h : AH) : Run sc n_J0_isLatin1_aae02 10 [aC c0] none [aI y0] h = Run sc n_J0_isLatin1_aae02 (if ¬ y0 = 0 then 17 else 13) [aC c0] none [] h := by
  exact q_if mt_J0_isLatin1_aae02 dJ0_isLatin1_aae02_10 (fun _ _ _ _ => rfl) rfl
/-! java/lang/String.checkIndex(II)V -/
theorem e_J0_checkIndex_df160_0 (sc : SC) (x0 : Int32) (x1 : Int32) (h : AH) : Run sc n_J0_checkIndex_df160 0 [aI x0, aI x1] none [] h = bC (Call sc n_J3_checkIndex_8e157 [aI x0, aI x1, aU] h) (fun v z => Run sc n_J0_checkIndex_df160 8 [aI x0, aI x1] none (v.toList ++ []) z) (fun E z => some (.inr E, z)) := by
  refine (s_go mt_J0_checkIndex_df160 dJ0_checkIndex_df160_0 rfl).trans ?_
  refine (s_go mt_J0_checkIndex_df160 dJ0_checkIndex_df160_1 rfl).trans ?_
  refine (s_go mt_J0_checkIndex_df160 dJ0_checkIndex_df160_2 rfl).trans ?_
  exact q_cS mt_J0_checkIndex_df160 dJ0_checkIndex_df160_5 rfl mt_J3_checkIndex_8e157 rfl rfl
theorem e_J0_checkIndex_df160_8 (sc : SC) (x0 : Int32) (x1 : Int32) (y0 : Int32) (h : AH) : Run sc n_J0_checkIndex_df160 8 [aI x0, aI x1] none [aI y0] h = some (.inl none, h) := by
  refine (s_go mt_J0_checkIndex_df160 dJ0_checkIndex_df160_8 rfl).trans ?_
  exact q_ret (c := (none, h)) mt_J0_checkIndex_df160 dJ0_checkIndex_df160_9 rfl
/-! java/lang/String.charAt(I)C -/
theorem e_J0_charAt_5068e_0 (sc : SC) (c0 : Nat) (x1 : Int32) (h : AH) : Run sc n_J0_charAt_5068e 0 [aC c0, aI x1] none [] h = bI (rOK sc h (aC c0) 101 = true) (bC (Call sc n_J0_isLatin1_aae02 [aC c0] h) (fun v z => Run sc n_J0_charAt_5068e 4 [aC c0, aI x1] none (v.toList ++ []) z) (fun E z => some (.inr E, z))) := by
  refine (s_go mt_J0_charAt_5068e dJ0_charAt_5068e_0 rfl).trans ?_
  exact q_cV mt_J0_charAt_5068e dJ0_charAt_5068e_1 rfl mt_J0_isLatin1_aae02 rfl rfl rfl
theorem e_J0_charAt_5068e_7 (sc : SC) (c0 : Nat) (x1 : Int32) (h : AH) : Run sc n_J0_charAt_5068e 7 [aC c0, aI x1] none [] h = bF (getF sc h (aC c0) 101 0) (fun z => Run sc n_J0_charAt_5068e 11 [aC c0, aI x1] none [z] h) := by
  refine (s_go mt_J0_charAt_5068e dJ0_charAt_5068e_7 rfl).trans ?_
  exact q_getfield mt_J0_charAt_5068e dJ0_charAt_5068e_8 rfl
theorem e_J0_charAt_5068e_16 (sc : SC) (c0 : Nat) (x1 : Int32) (h : AH) : Run sc n_J0_charAt_5068e 16 [aC c0, aI x1] none [] h = bF (getF sc h (aC c0) 101 0) (fun z => Run sc n_J0_charAt_5068e 20 [aC c0, aI x1] none [z] h) := by
  refine (s_go mt_J0_charAt_5068e dJ0_charAt_5068e_16 rfl).trans ?_
  exact q_getfield mt_J0_charAt_5068e dJ0_charAt_5068e_17 rfl
theorem e_J0_charAt_5068e_4 (sc : SC) (c0 : Nat) (x1 : Int32) (y0 : Int32) (h : AH) : Run sc n_J0_charAt_5068e 4 [aC c0, aI x1] none [aI y0] h = Run sc n_J0_charAt_5068e (if y0 = 0 then 16 else 7) [aC c0, aI x1] none [] h := by
  exact q_if mt_J0_charAt_5068e dJ0_charAt_5068e_4 (fun _ _ _ _ => rfl) rfl
theorem e_J0_charAt_5068e_11 (sc : SC) (c0 : Nat) (x1 : Int32) (d0 : Nat) (h : AH) : Run sc n_J0_charAt_5068e 11 [aC c0, aI x1] none [aC d0] h = bC (Call sc n_J1_charAt_3b067 [aC d0, aI x1] h) (fun v z => Run sc n_J0_charAt_5068e 15 [aC c0, aI x1] none (v.toList ++ []) z) (fun E z => some (.inr E, z)) := by
  refine (s_go mt_J0_charAt_5068e dJ0_charAt_5068e_11 rfl).trans ?_
  exact q_cS mt_J0_charAt_5068e dJ0_charAt_5068e_12 rfl mt_J1_charAt_3b067 rfl rfl
theorem e_J0_charAt_5068e_15 (sc : SC) (c0 : Nat) (x1 : Int32) (y0 : Int32) (h : AH) : Run sc n_J0_charAt_5068e 15 [aC c0, aI x1] none [aI y0] h = bI (retK (some FieldType.char) y0 = true) (some (.inl (some (aI y0)), h)) := by
  exact q_iret mt_J0_charAt_5068e dJ0_charAt_5068e_15
/-! jdk/internal/util/Preconditions.checkIndex(IILjava/util/function/BiFunction;)I -/
theorem e_J3_checkIndex_8e157_0 (sc : SC) (x0 : Int32) (x1 : Int32) (h : AH) : Run sc n_J3_checkIndex_8e157 0 [aI x0, aI x1, aU] none [] h = Run sc n_J3_checkIndex_8e157 (if x0 < 0 then 9 else 4) [aI x0, aI x1, aU] none [] h := by
  refine (s_go mt_J3_checkIndex_8e157 dJ3_checkIndex_8e157_0 rfl).trans ?_
  exact q_if mt_J3_checkIndex_8e157 dJ3_checkIndex_8e157_1 (fun _ _ _ _ => rfl) rfl
theorem e_J3_checkIndex_8e157_4 (sc : SC) (x0 : Int32) (x1 : Int32) (h : AH) : Run sc n_J3_checkIndex_8e157 4 [aI x0, aI x1, aU] none [] h = Run sc n_J3_checkIndex_8e157 (if x0 < x1 then 16 else 9) [aI x0, aI x1, aU] none [] h := by
  refine (s_go mt_J3_checkIndex_8e157 dJ3_checkIndex_8e157_4 rfl).trans ?_
  refine (s_go mt_J3_checkIndex_8e157 dJ3_checkIndex_8e157_5 rfl).trans ?_
  exact q_icmp mt_J3_checkIndex_8e157 dJ3_checkIndex_8e157_6 (fun _ _ _ _ => rfl) rfl
theorem e_J3_checkIndex_8e157_9 (sc : SC) (x0 : Int32) (x1 : Int32) (h : AH) : Run sc n_J3_checkIndex_8e157 9 [aI x0, aI x1, aU] none [] h = bI (aObj aU = true) (Run sc n_J3_checkIndex_8e157 10 [aI x0, aI x1, aU] none [aU] h) := by
  exact q_aloadV (i := 2) (n := 1) (v := aU) mt_J3_checkIndex_8e157 dJ3_checkIndex_8e157_9 (fun _ _ _ _ => rfl) rfl
theorem e_J3_checkIndex_8e157_16 (sc : SC) (x0 : Int32) (x1 : Int32) (h : AH) : Run sc n_J3_checkIndex_8e157 16 [aI x0, aI x1, aU] none [] h = some (.inl (some (aI x0)), h) := by
  refine (s_go mt_J3_checkIndex_8e157 dJ3_checkIndex_8e157_16 rfl).trans ?_
  exact q_ret (c := (some (aI x0), h)) mt_J3_checkIndex_8e157 dJ3_checkIndex_8e157_17 rfl
/-! java/lang/StringLatin1.charAt([BI)C -/
theorem e_J1_charAt_3b067_0 (sc : SC) (v0 : AV) (x1 : Int32) (h : AH) : Run sc n_J1_charAt_3b067 0 [v0, aI x1] none [] h = bI (aObj v0 = true) (Run sc n_J1_charAt_3b067 2 [v0, aI x1] none [v0, aI x1] h) := by
  refine (s_go mt_J1_charAt_3b067 dJ1_charAt_3b067_0 rfl).trans ?_
  exact q_aloadV (i := 0) (n := 1) (v := v0) mt_J1_charAt_3b067 dJ1_charAt_3b067_1 (fun _ _ _ _ => rfl) rfl
theorem e_J1_charAt_3b067_2 (sc : SC) (v0 : AV) (x1 : Int32) (y0 : Int32) (w1 : AV) (h : AH) : Run sc n_J1_charAt_3b067 2 [v0, aI x1] none [w1, aI y0] h = bO (lenA sc h w1) (fun z => Run sc n_J1_charAt_3b067 3 [v0, aI x1] none [aI (nI z), aI y0] h) := by
  exact q_alen mt_J1_charAt_3b067 dJ1_charAt_3b067_2
theorem e_J1_charAt_3b067_3 (sc : SC) (v0 : AV) (x1 : Int32) (y0 : Int32) (y1 : Int32) (h : AH) : Run sc n_J1_charAt_3b067 3 [v0, aI x1] none [aI y1, aI y0] h = bC (Call sc n_J0_checkIndex_df160 [aI y0, aI y1] h) (fun v z => Run sc n_J1_charAt_3b067 6 [v0, aI x1] none (v.toList ++ []) z) (fun E z => some (.inr E, z)) := by
  exact q_cS mt_J1_charAt_3b067 dJ1_charAt_3b067_3 rfl mt_J0_checkIndex_df160 rfl rfl
theorem e_J1_charAt_3b067_6 (sc : SC) (v0 : AV) (x1 : Int32) (h : AH) : Run sc n_J1_charAt_3b067 6 [v0, aI x1] none [] h = bI (aObj v0 = true) (Run sc n_J1_charAt_3b067 7 [v0, aI x1] none [v0] h) := by
  exact q_aloadV (i := 0) (n := 1) (v := v0) mt_J1_charAt_3b067 dJ1_charAt_3b067_6 (fun _ _ _ _ => rfl) rfl
theorem e_J1_charAt_3b067_7 (sc : SC) (v0 : AV) (x1 : Int32) (w0 : AV) (h : AH) : Run sc n_J1_charAt_3b067 7 [v0, aI x1] none [w0] h = bO (ldI sc h (fun t => t == 2 || t == 3) w0 x1) (fun z => Run sc n_J1_charAt_3b067 9 [v0, aI x1] none [aI z] h) := by
  refine (s_go mt_J1_charAt_3b067 dJ1_charAt_3b067_7 rfl).trans ?_
  exact q_baload mt_J1_charAt_3b067 dJ1_charAt_3b067_8
theorem e_J1_charAt_3b067_9 (sc : SC) (v0 : AV) (x1 : Int32) (y0 : Int32) (h : AH) : Run sc n_J1_charAt_3b067 9 [v0, aI x1] none [aI y0] h = bI (retK (some FieldType.char) (((y0 &&& (nI 255)).toUInt32 % 65536).toInt32) = true) (some (.inl (some (aI (((y0 &&& (nI 255)).toUInt32 % 65536).toInt32))), h)) := by
  refine (s_go mt_J1_charAt_3b067 dJ1_charAt_3b067_9 rfl).trans ?_
  refine (s_go mt_J1_charAt_3b067 dJ1_charAt_3b067_12 rfl).trans ?_
  refine (s_go mt_J1_charAt_3b067 dJ1_charAt_3b067_13 rfl).trans ?_
  exact q_iret mt_J1_charAt_3b067 dJ1_charAt_3b067_14
/-! java/lang/Enum.ordinal()I -/
theorem e_Jx29ce0_ordinal_8abf5_0 (sc : SC) (c0 : Nat) (h : AH) : Run sc n_Jx29ce0_ordinal_8abf5 0 [aC c0] none [] h = bF (getF sc h (aC c0) 100 8) (fun z => Run sc n_Jx29ce0_ordinal_8abf5 4 [aC c0] none [z] h) := by
  refine (s_go mt_Jx29ce0_ordinal_8abf5 dJx29ce0_ordinal_8abf5_0 rfl).trans ?_
  exact q_getfield mt_Jx29ce0_ordinal_8abf5 dJx29ce0_ordinal_8abf5_1 rfl
theorem e_Jx29ce0_ordinal_8abf5_4 (sc : SC) (c0 : Nat) (y0 : Int32) (h : AH) : Run sc n_Jx29ce0_ordinal_8abf5 4 [aC c0] none [aI y0] h = some (.inl (some (aI y0)), h) := by
  exact q_ret (c := (some (aI y0), h)) mt_Jx29ce0_ordinal_8abf5 dJx29ce0_ordinal_8abf5_4 rfl
