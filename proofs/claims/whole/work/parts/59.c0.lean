/-! calls as runs of a first block (by program: wip/whole/gen_c0.py) -/
theorem c0_J0_coder_7d493 (sc : SC) (c0 : Nat) (h : AH) : Call sc n_J0_coder_7d493 [aC c0] h = Run sc n_J0_coder_7d493 0 [aC c0] none [] h := Call_eq mt_J0_coder_7d493
theorem c0_J0_length_8abf5 (sc : SC) (c0 : Nat) (h : AH) : Call sc n_J0_length_8abf5 [aC c0] h = Run sc n_J0_length_8abf5 0 [aC c0] none [] h := Call_eq mt_J0_length_8abf5
theorem c0_J0_isLatin1_aae02 (sc : SC) (c0 : Nat) (h : AH) : Call sc n_J0_isLatin1_aae02 [aC c0] h = Run sc n_J0_isLatin1_aae02 0 [aC c0] none [] h := Call_eq mt_J0_isLatin1_aae02
theorem c0_J0_checkIndex_df160 (sc : SC) (x0 : Int32) (x1 : Int32) (h : AH) : Call sc n_J0_checkIndex_df160 [aI x0, aI x1] h = Run sc n_J0_checkIndex_df160 0 [aI x0, aI x1] none [] h := Call_eq mt_J0_checkIndex_df160
theorem c0_J0_charAt_5068e (sc : SC) (c0 : Nat) (x1 : Int32) (h : AH) : Call sc n_J0_charAt_5068e [aC c0, aI x1] h = Run sc n_J0_charAt_5068e 0 [aC c0, aI x1] none [] h := Call_eq mt_J0_charAt_5068e
theorem c0_J3_checkIndex_8e157 (sc : SC) (x0 : Int32) (x1 : Int32) (h : AH) : Call sc n_J3_checkIndex_8e157 [aI x0, aI x1, aU] h = Run sc n_J3_checkIndex_8e157 0 [aI x0, aI x1, aU] none [] h := Call_eq mt_J3_checkIndex_8e157
theorem c0_J1_charAt_3b067 (sc : SC) (v0 : AV) (x1 : Int32) (h : AH) : Call sc n_J1_charAt_3b067 [v0, aI x1] h = Run sc n_J1_charAt_3b067 0 [v0, aI x1] none [] h := Call_eq mt_J1_charAt_3b067
theorem c0_Jx29ce0_ordinal_8abf5 (sc : SC) (c0 : Nat) (h : AH) : Call sc n_Jx29ce0_ordinal_8abf5 [aC c0] h = Run sc n_Jx29ce0_ordinal_8abf5 0 [aC c0] none [] h := Call_eq mt_Jx29ce0_ordinal_8abf5
theorem c0_X6_init (sc : SC) (p0 : Nat) (x1 : Int32) (h : AH) : Call sc n_X6_init [aD p0, aI x1] h = Run sc n_X6_init 0 [aD p0, aI x1] none [] h := Call_eq mt_X6_init
theorem c0_X6_put (sc : SC) (p0 : Nat) (x1 : Int32) (x2 : Int32) (x3 : Int32) (h : AH) : Call sc n_X6_put [aD p0, aI x1, aI x2, aI x3] h = Run sc n_X6_put 0 [aD p0, aI x1, aI x2, aI x3] none [] h := Call_eq mt_X6_put
theorem c0_X6_appendKind (sc : SC) (p0 : Nat) (x1 : Int32) (h : AH) : Call sc n_X6_appendKind [aD p0, aI x1] h = Run sc n_X6_appendKind 0 [aD p0, aI x1, aU, aU] none [] h := Call_eq mt_X6_appendKind
theorem c0_X6_part (sc : SC) (p0 : Nat) (x1 : Int32) (x2 : Int32) (h : AH) : Call sc n_X6_part [aD p0, aI x1, aI x2] h = Run sc n_X6_part 0 [aD p0, aI x1, aI x2] none [] h := Call_eq mt_X6_part
theorem c0_X6_kind (sc : SC) (p0 : Nat) (x1 : Int32) (h : AH) : Call sc n_X6_kind [aD p0, aI x1] h = Run sc n_X6_kind 0 [aD p0, aI x1] none [] h := Call_eq mt_X6_kind
theorem c0_X6_isBranch (sc : SC) (p0 : Nat) (x1 : Int32) (h : AH) : Call sc n_X6_isBranch [aD p0, aI x1] h = Run sc n_X6_isBranch 0 [aD p0, aI x1] none [] h := Call_eq mt_X6_isBranch
theorem c0_X6_target (sc : SC) (p0 : Nat) (x1 : Int32) (h : AH) : Call sc n_X6_target [aD p0, aI x1] h = Run sc n_X6_target 0 [aD p0, aI x1] none [] h := Call_eq mt_X6_target
theorem c0_X6_appendAll (sc : SC) (p0 : Nat) (p1 : Nat) (h : AH) : Call sc n_X6_appendAll [aD p0, aD p1] h = Run sc n_X6_appendAll 0 [aD p0, aD p1, aU, aU, aU] none [] h := Call_eq mt_X6_appendAll
theorem c0_X6_has (sc : SC) (p0 : Nat) (x1 : Int32) (h : AH) : Call sc n_X6_has [aD p0, aI x1] h = Run sc n_X6_has 0 [aD p0, aI x1] none [] h := Call_eq mt_X6_has
theorem c0_X6_copyFrom (sc : SC) (p0 : Nat) (p1 : Nat) (h : AH) : Call sc n_X6_copyFrom [aD p0, aD p1] h = Run sc n_X6_copyFrom 0 [aD p0, aD p1] none [] h := Call_eq mt_X6_copyFrom
theorem c0_X6_entryOf (sc : SC) (p0 : Nat) (x1 : Int32) (h : AH) : Call sc n_X6_entryOf [aD p0, aI x1] h = Run sc n_X6_entryOf 0 [aD p0, aI x1, aU, aU] none [] h := Call_eq mt_X6_entryOf
theorem c0_X6_expandFrom (sc : SC) (p0 : Nat) (p1 : Nat) (h : AH) : Call sc n_X6_expandFrom [aD p0, aD p1] h = Run sc n_X6_expandFrom 0 [aD p0, aD p1, aU, aU] none [] h := Call_eq mt_X6_expandFrom
theorem c0_X6_isSlot (sc : SC) (p0 : Nat) (x1 : Int32) (h : AH) : Call sc n_X6_isSlot [aD p0, aI x1] h = Run sc n_X6_isSlot 0 [aD p0, aI x1] none [] h := Call_eq mt_X6_isSlot
theorem c0_X6_branchesTo (sc : SC) (p0 : Nat) (x1 : Int32) (h : AH) : Call sc n_X6_branchesTo [aD p0, aI x1] h = Run sc n_X6_branchesTo 0 [aD p0, aI x1, aU, aU] none [] h := Call_eq mt_X6_branchesTo
theorem c0_X6_branches (sc : SC) (p0 : Nat) (h : AH) : Call sc n_X6_branches [aD p0] h = Run sc n_X6_branches 0 [aD p0, aU, aU] none [] h := Call_eq mt_X6_branches
theorem c0_X6_hasEmptySlot (sc : SC) (p0 : Nat) (x1 : Int32) (h : AH) : Call sc n_X6_hasEmptySlot [aD p0, aI x1] h = Run sc n_X6_hasEmptySlot 0 [aD p0, aI x1] none [] h := Call_eq mt_X6_hasEmptySlot
theorem c0_X6_emptySlots (sc : SC) (p0 : Nat) (h : AH) : Call sc n_X6_emptySlots [aD p0] h = Run sc n_X6_emptySlots 0 [aD p0, aU, aU] none [] h := Call_eq mt_X6_emptySlots
theorem c0_X6_annullingBranches (sc : SC) (p0 : Nat) (h : AH) : Call sc n_X6_annullingBranches [aD p0] h = Run sc n_X6_annullingBranches 0 [aD p0, aU, aU] none [] h := Call_eq mt_X6_annullingBranches
theorem c0_X6_nops (sc : SC) (p0 : Nat) (h : AH) : Call sc n_X6_nops [aD p0] h = Run sc n_X6_nops 0 [aD p0, aU, aU] none [] h := Call_eq mt_X6_nops
theorem c0_X6_reads (sc : SC) (p0 : Nat) (x1 : Int32) (h : AH) : Call sc n_X6_reads [aD p0, aI x1] h = Run sc n_X6_reads 0 [aD p0, aI x1, aU, aU, aU] none [] h := Call_eq mt_X6_reads
theorem c0_X6_writes (sc : SC) (p0 : Nat) (x1 : Int32) (h : AH) : Call sc n_X6_writes [aD p0, aI x1] h = Run sc n_X6_writes 0 [aD p0, aI x1, aU] none [] h := Call_eq mt_X6_writes
theorem c0_X6_isAnnulling (sc : SC) (p0 : Nat) (x1 : Int32) (h : AH) : Call sc n_X6_isAnnulling [aD p0, aI x1] h = Run sc n_X6_isAnnulling 0 [aD p0, aI x1] none [] h := Call_eq mt_X6_isAnnulling
theorem c0_X6_areIndependent (sc : SC) (p0 : Nat) (x1 : Int32) (x2 : Int32) (h : AH) : Call sc n_X6_areIndependent [aD p0, aI x1, aI x2] h = Run sc n_X6_areIndependent 0 [aD p0, aI x1, aI x2, aU, aU] none [] h := Call_eq mt_X6_areIndependent
theorem c0_X6_copyInstruction (sc : SC) (p0 : Nat) (x1 : Int32) (x2 : Int32) (h : AH) : Call sc n_X6_copyInstruction [aD p0, aI x1, aI x2] h = Run sc n_X6_copyInstruction 0 [aD p0, aI x1, aI x2] none [] h := Call_eq mt_X6_copyInstruction
theorem c0_X6_remove (sc : SC) (p0 : Nat) (x1 : Int32) (h : AH) : Call sc n_X6_remove [aD p0, aI x1] h = Run sc n_X6_remove 0 [aD p0, aI x1, aU, aU] none [] h := Call_eq mt_X6_remove
theorem c0_X7_init (sc : SC) (p0 : Nat) (h : AH) : Call sc n_X7_init [aD p0] h = Run sc n_X7_init 0 [aD p0] none [] h := Call_eq mt_X7_init
theorem c0_X7_takes (sc : SC) (p0 : Nat) (x1 : Int32) (h : AH) : Call sc n_X7_takes [aD p0, aI x1] h = Run sc n_X7_takes 0 [aD p0, aI x1] none [] h := Call_eq mt_X7_takes
theorem c0_X7_isWord (sc : SC) (p0 : Nat) (c1 : Nat) (x2 : Int32) (x3 : Int32) (h : AH) : Call sc n_X7_isWord [aD p0, aC c1, aI x2, aI x3] h = Run sc n_X7_isWord 0 [aD p0, aC c1, aI x2, aI x3, aU] none [] h := Call_eq mt_X7_isWord
theorem c0_X7_readKind (sc : SC) (p0 : Nat) (h : AH) : Call sc n_X7_readKind [aD p0] h = Run sc n_X7_readKind 0 [aD p0, aU, aU, aU] none [] h := Call_eq mt_X7_readKind
theorem c0_X7_passes (sc : SC) (p0 : Nat) (x1 : Int32) (h : AH) : Call sc n_X7_passes [aD p0, aI x1] h = Run sc n_X7_passes 0 [aD p0, aI x1] none [] h := Call_eq mt_X7_passes
theorem c0_X7_isDigitNext (sc : SC) (p0 : Nat) (h : AH) : Call sc n_X7_isDigitNext [aD p0] h = Run sc n_X7_isDigitNext 0 [aD p0] none [] h := Call_eq mt_X7_isDigitNext
theorem c0_X7_readsNumber (sc : SC) (p0 : Nat) (x1 : Int32) (h : AH) : Call sc n_X7_readsNumber [aD p0, aI x1] h = Run sc n_X7_readsNumber 0 [aD p0, aI x1, aU, aU] none [] h := Call_eq mt_X7_readsNumber
theorem c0_X7_readsInstruction (sc : SC) (p0 : Nat) (h : AH) : Call sc n_X7_readsInstruction [aD p0] h = Run sc n_X7_readsInstruction 0 [aD p0, aU, aU, aU, aU] none [] h := Call_eq mt_X7_readsInstruction
theorem c0_X7_readsText (sc : SC) (p0 : Nat) (h : AH) : Call sc n_X7_readsText [aD p0] h = Run sc n_X7_readsText 0 [aD p0, aU, aU] none [] h := Call_eq mt_X7_readsText
theorem c0_X7_greatest (sc : SC) (p0 : Nat) (x1 : Int32) (h : AH) : Call sc n_X7_greatest [aD p0, aI x1] h = Run sc n_X7_greatest 0 [aD p0, aI x1] none [] h := Call_eq mt_X7_greatest
theorem c0_X7_isInRange (sc : SC) (p0 : Nat) (h : AH) : Call sc n_X7_isInRange [aD p0] h = Run sc n_X7_isInRange 0 [aD p0, aU, aU] none [] h := Call_eq mt_X7_isInRange
theorem c0_X8_init (sc : SC) (p0 : Nat) (h : AH) : Call sc n_X8_init [aD p0] h = Run sc n_X8_init 0 [aD p0] none [] h := Call_eq mt_X8_init
theorem c0_X8_append (sc : SC) (p0 : Nat) (x1 : Int32) (h : AH) : Call sc n_X8_append [aD p0, aI x1] h = Run sc n_X8_append 0 [aD p0, aI x1] none [] h := Call_eq mt_X8_append
theorem c0_X8_writeNumber (sc : SC) (p0 : Nat) (x1 : Int32) (h : AH) : Call sc n_X8_writeNumber [aD p0, aI x1] h = Run sc n_X8_writeNumber 0 [aD p0, aI x1, aU] none [] h := Call_eq mt_X8_writeNumber
theorem c0_X8_writeInstruction (sc : SC) (p0 : Nat) (p1 : Nat) (x2 : Int32) (h : AH) : Call sc n_X8_writeInstruction [aD p0, aD p1, aI x2] h = Run sc n_X8_writeInstruction 0 [aD p0, aD p1, aI x2, aU, aU] none [] h := Call_eq mt_X8_writeInstruction
theorem c0_X8_writeProgram (sc : SC) (p0 : Nat) (p1 : Nat) (h : AH) : Call sc n_X8_writeProgram [aD p0, aD p1] h = Run sc n_X8_writeProgram 0 [aD p0, aD p1, aU] none [] h := Call_eq mt_X8_writeProgram
theorem c0_X2_init (sc : SC) (p0 : Nat) (p1 : Nat) (h : AH) : Call sc n_X2_init [aD p0, aD p1] h = Run sc n_X2_init 0 [aD p0, aD p1] none [] h := Call_eq mt_X2_init
theorem c0_X2_reach (sc : SC) (p0 : Nat) (x1 : Int32) (h : AH) : Call sc n_X2_reach [aD p0, aI x1] h = Run sc n_X2_reach 0 [aD p0, aI x1, aU] none [] h := Call_eq mt_X2_reach
theorem c0_X2_growReached (sc : SC) (p0 : Nat) (h : AH) : Call sc n_X2_growReached [aD p0] h = Run sc n_X2_growReached 0 [aD p0, aU, aU, aU] none [] h := Call_eq mt_X2_growReached
theorem c0_X2_unreachable (sc : SC) (p0 : Nat) (h : AH) : Call sc n_X2_unreachable [aD p0] h = Run sc n_X2_unreachable 0 [aD p0, aU, aU, aU] none [] h := Call_eq mt_X2_unreachable
theorem c0_X2_liveThrough (sc : SC) (p0 : Nat) (x1 : Int32) (x2 : Int32) (h : AH) : Call sc n_X2_liveThrough [aD p0, aI x1, aI x2] h = Run sc n_X2_liveThrough 0 [aD p0, aI x1, aI x2] none [] h := Call_eq mt_X2_liveThrough
theorem c0_X2_liveFromFollowing (sc : SC) (p0 : Nat) (x1 : Int32) (h : AH) : Call sc n_X2_liveFromFollowing [aD p0, aI x1] h = Run sc n_X2_liveFromFollowing 0 [aD p0, aI x1, aU, aU] none [] h := Call_eq mt_X2_liveFromFollowing
theorem c0_X2_liveBefore (sc : SC) (p0 : Nat) (x1 : Int32) (h : AH) : Call sc n_X2_liveBefore [aD p0, aI x1] h = Run sc n_X2_liveBefore 0 [aD p0, aI x1, aU, aU, aU, aU] none [] h := Call_eq mt_X2_liveBefore
theorem c0_X1_init (sc : SC) (p0 : Nat) (p1 : Nat) (p2 : Nat) (h : AH) : Call sc n_X1_init [aD p0, aD p1, aD p2] h = Run sc n_X1_init 0 [aD p0, aD p1, aD p2] none [] h := Call_eq mt_X1_init
theorem c0_X1_canPass (sc : SC) (p0 : Nat) (x1 : Int32) (x2 : Int32) (h : AH) : Call sc n_X1_canPass [aD p0, aI x1, aI x2] h = Run sc n_X1_canPass 0 [aD p0, aI x1, aI x2, aU] none [] h := Call_eq mt_X1_canPass
theorem c0_X1_findBefore (sc : SC) (p0 : Nat) (x1 : Int32) (h : AH) : Call sc n_X1_findBefore [aD p0, aI x1] h = Run sc n_X1_findBefore 0 [aD p0, aI x1, aU, aU] none [] h := Call_eq mt_X1_findBefore
theorem c0_X1_findAtTarget (sc : SC) (p0 : Nat) (x1 : Int32) (h : AH) : Call sc n_X1_findAtTarget [aD p0, aI x1] h = Run sc n_X1_findAtTarget 0 [aD p0, aI x1, aU] none [] h := Call_eq mt_X1_findAtTarget
theorem c0_X1_findInFallThrough (sc : SC) (p0 : Nat) (x1 : Int32) (h : AH) : Call sc n_X1_findInFallThrough [aD p0, aI x1] h = Run sc n_X1_findInFallThrough 0 [aD p0, aI x1, aU, aU, aU] none [] h := Call_eq mt_X1_findInFallThrough
theorem c0_X1_find (sc : SC) (p0 : Nat) (x1 : Int32) (x2 : Int32) (h : AH) : Call sc n_X1_find [aD p0, aI x1, aI x2] h = Run sc n_X1_find 0 [aD p0, aI x1, aI x2] none [] h := Call_eq mt_X1_find
theorem c0_X1_move (sc : SC) (p0 : Nat) (x1 : Int32) (x2 : Int32) (x3 : Int32) (h : AH) : Call sc n_X1_move [aD p0, aI x1, aI x2, aI x3] h = Run sc n_X1_move 0 [aD p0, aI x1, aI x2, aI x3] none [] h := Call_eq mt_X1_move
theorem c0_X1_fillEach (sc : SC) (p0 : Nat) (x1 : Int32) (x2 : Int32) (h : AH) : Call sc n_X1_fillEach [aD p0, aI x1, aI x2] h = Run sc n_X1_fillEach 0 [aD p0, aI x1, aI x2, aU, aU, aU, aU, aU, aU, aU] none [] h := Call_eq mt_X1_fillEach
theorem c0_X3_init (sc : SC) (p0 : Nat) (h : AH) : Call sc n_X3_init [aD p0] h = Run sc n_X3_init 0 [aD p0, aU] none [] h := Call_eq mt_X3_init
theorem c0_X3_remember (sc : SC) (p0 : Nat) (p1 : Nat) (h : AH) : Call sc n_X3_remember [aD p0, aD p1] h = Run sc n_X3_remember 0 [aD p0, aD p1] none [] h := Call_eq mt_X3_remember
theorem c0_X3_takeBack (sc : SC) (p0 : Nat) (p1 : Nat) (h : AH) : Call sc n_X3_takeBack [aD p0, aD p1] h = Run sc n_X3_takeBack 0 [aD p0, aD p1] none [] h := Call_eq mt_X3_takeBack
theorem c0_X5_init (sc : SC) (p0 : Nat) (x1 : Int32) (h : AH) : Call sc n_X5_init [aD p0, aI x1] h = Run sc n_X5_init 0 [aD p0, aI x1] none [] h := Call_eq mt_X5_init
theorem c0_X5_conditionHolds (sc : SC) (p0 : Nat) (p1 : Nat) (x2 : Int32) (h : AH) : Call sc n_X5_conditionHolds [aD p0, aD p1, aI x2] h = Run sc n_X5_conditionHolds 0 [aD p0, aD p1, aI x2, aU, aU] none [] h := Call_eq mt_X5_conditionHolds
theorem c0_X5_cellPlace (sc : SC) (p0 : Nat) (x1 : Int32) (x2 : Int32) (h : AH) : Call sc n_X5_cellPlace [aD p0, aI x1, aI x2] h = Run sc n_X5_cellPlace 0 [aD p0, aI x1, aI x2] none [] h := Call_eq mt_X5_cellPlace
theorem c0_X5_perform (sc : SC) (p0 : Nat) (p1 : Nat) (x2 : Int32) (h : AH) : Call sc n_X5_perform [aD p0, aD p1, aI x2] h = Run sc n_X5_perform 0 [aD p0, aD p1, aI x2, aU, aU, aU] none [] h := Call_eq mt_X5_perform
theorem c0_X5_executes (sc : SC) (p0 : Nat) (p1 : Nat) (x2 : Int32) (p3 : Nat) (x4 : Int32) (h : AH) : Call sc n_X5_executes [aD p0, aD p1, aI x2, aD p3, aI x4] h = Run sc n_X5_executes 0 [aD p0, aD p1, aI x2, aD p3, aI x4, aU, aU, aU, aU, aU, aU] none [] h := Call_eq mt_X5_executes
theorem c0_X5_hasEffectsOf (sc : SC) (p0 : Nat) (p1 : Nat) (h : AH) : Call sc n_X5_hasEffectsOf [aD p0, aD p1] h = Run sc n_X5_hasEffectsOf 0 [aD p0, aD p1, aU] none [] h := Call_eq mt_X5_hasEffectsOf
theorem c0_X9_init (sc : SC) (p0 : Nat) (h : AH) : Call sc n_X9_init [aD p0] h = Run sc n_X9_init 0 [aD p0] none [] h := Call_eq mt_X9_init
theorem c0_X9_feed (sc : SC) (p0 : Nat) (x1 : Int32) (h : AH) : Call sc n_X9_feed [aD p0, aI x1] h = Run sc n_X9_feed 0 [aD p0, aI x1] none [] h := Call_eq mt_X9_feed
theorem c0_X9_parse (sc : SC) (p0 : Nat) (h : AH) : Call sc n_X9_parse [aD p0] h = Run sc n_X9_parse 0 [aD p0, aU, aU] none [] h := Call_eq mt_X9_parse
theorem c0_X9_clear (sc : SC) (p0 : Nat) (h : AH) : Call sc n_X9_clear [aD p0] h = Run sc n_X9_clear 0 [aD p0, aU] none [] h := Call_eq mt_X9_clear
theorem c0_X9_instructions (sc : SC) (p0 : Nat) (h : AH) : Call sc n_X9_instructions [aD p0] h = Run sc n_X9_instructions 0 [aD p0] none [] h := Call_eq mt_X9_instructions
theorem c0_X9_instruction (sc : SC) (p0 : Nat) (x1 : Int32) (x2 : Int32) (h : AH) : Call sc n_X9_instruction [aD p0, aI x1, aI x2] h = Run sc n_X9_instruction 0 [aD p0, aI x1, aI x2] none [] h := Call_eq mt_X9_instruction
theorem c0_X9_expand (sc : SC) (p0 : Nat) (h : AH) : Call sc n_X9_expand [aD p0] h = Run sc n_X9_expand 0 [aD p0] none [] h := Call_eq mt_X9_expand
theorem c0_X9_entries (sc : SC) (p0 : Nat) (h : AH) : Call sc n_X9_entries [aD p0] h = Run sc n_X9_entries 0 [aD p0] none [] h := Call_eq mt_X9_entries
theorem c0_X9_entry (sc : SC) (p0 : Nat) (x1 : Int32) (x2 : Int32) (h : AH) : Call sc n_X9_entry [aD p0, aI x1, aI x2] h = Run sc n_X9_entry 0 [aD p0, aI x1, aI x2] none [] h := Call_eq mt_X9_entry
theorem c0_X9_count (sc : SC) (p0 : Nat) (x1 : Int32) (h : AH) : Call sc n_X9_count [aD p0, aI x1] h = Run sc n_X9_count 0 [aD p0, aI x1] none [] h := Call_eq mt_X9_count
theorem c0_X9_live (sc : SC) (p0 : Nat) (x1 : Int32) (h : AH) : Call sc n_X9_live [aD p0, aI x1] h = Run sc n_X9_live 0 [aD p0, aI x1] none [] h := Call_eq mt_X9_live
theorem c0_X9_isIndependent (sc : SC) (p0 : Nat) (x1 : Int32) (x2 : Int32) (h : AH) : Call sc n_X9_isIndependent [aD p0, aI x1, aI x2] h = Run sc n_X9_isIndependent 0 [aD p0, aI x1, aI x2] none [] h := Call_eq mt_X9_isIndependent
theorem c0_X9_isWay (sc : SC) (x0 : Int32) (h : AH) : Call sc n_X9_isWay [aI x0] h = Run sc n_X9_isWay 0 [aI x0] none [] h := Call_eq mt_X9_isWay
theorem c0_X9_candidate (sc : SC) (p0 : Nat) (x1 : Int32) (x2 : Int32) (h : AH) : Call sc n_X9_candidate [aD p0, aI x1, aI x2] h = Run sc n_X9_candidate 0 [aD p0, aI x1, aI x2, aU] none [] h := Call_eq mt_X9_candidate
theorem c0_X9_fill (sc : SC) (p0 : Nat) (x1 : Int32) (x2 : Int32) (h : AH) : Call sc n_X9_fill [aD p0, aI x1, aI x2] h = Run sc n_X9_fill 0 [aD p0, aI x1, aI x2, aU] none [] h := Call_eq mt_X9_fill
theorem c0_X9_fillAll (sc : SC) (p0 : Nat) (x1 : Int32) (x2 : Int32) (h : AH) : Call sc n_X9_fillAll [aD p0, aI x1, aI x2] h = Run sc n_X9_fillAll 0 [aD p0, aI x1, aI x2] none [] h := Call_eq mt_X9_fillAll
theorem c0_X9_undo (sc : SC) (p0 : Nat) (h : AH) : Call sc n_X9_undo [aD p0] h = Run sc n_X9_undo 0 [aD p0] none [] h := Call_eq mt_X9_undo
theorem c0_X9_write (sc : SC) (p0 : Nat) (h : AH) : Call sc n_X9_write [aD p0] h = Run sc n_X9_write 0 [aD p0] none [] h := Call_eq mt_X9_write
theorem c0_X9_text (sc : SC) (p0 : Nat) (x1 : Int32) (h : AH) : Call sc n_X9_text [aD p0, aI x1] h = Run sc n_X9_text 0 [aD p0, aI x1] none [] h := Call_eq mt_X9_text
theorem c0_X9_placeOf (sc : SC) (x0 : Int32) (x1 : Int32) (h : AH) : Call sc n_X9_placeOf [aI x0, aI x1] h = Run sc n_X9_placeOf 0 [aI x0, aI x1] none [] h := Call_eq mt_X9_placeOf
theorem c0_X9_setInitial (sc : SC) (p0 : Nat) (x1 : Int32) (x2 : Int32) (x3 : Int32) (h : AH) : Call sc n_X9_setInitial [aD p0, aI x1, aI x2, aI x3] h = Run sc n_X9_setInitial 0 [aD p0, aI x1, aI x2, aI x3, aU, aU] none [] h := Call_eq mt_X9_setInitial
theorem c0_X9_run (sc : SC) (p0 : Nat) (x1 : Int32) (x2 : Int32) (h : AH) : Call sc n_X9_run [aD p0, aI x1, aI x2] h = Run sc n_X9_run 0 [aD p0, aI x1, aI x2, aU] none [] h := Call_eq mt_X9_run
theorem c0_X9_checkKept (sc : SC) (p0 : Nat) (h : AH) : Call sc n_X9_checkKept [aD p0] h = Run sc n_X9_checkKept 0 [aD p0] none [] h := Call_eq mt_X9_checkKept
theorem c0_X9_finalValue (sc : SC) (p0 : Nat) (x1 : Int32) (x2 : Int32) (h : AH) : Call sc n_X9_finalValue [aD p0, aI x1, aI x2] h = Run sc n_X9_finalValue 0 [aD p0, aI x1, aI x2, aU] none [] h := Call_eq mt_X9_finalValue
theorem c0_X9_outputs (sc : SC) (p0 : Nat) (h : AH) : Call sc n_X9_outputs [aD p0] h = Run sc n_X9_outputs 0 [aD p0] none [] h := Call_eq mt_X9_outputs
theorem c0_X9_output (sc : SC) (p0 : Nat) (x1 : Int32) (h : AH) : Call sc n_X9_output [aD p0, aI x1] h = Run sc n_X9_output 0 [aD p0, aI x1] none [] h := Call_eq mt_X9_output
theorem c0_X9_checkDrawn (sc : SC) (x0 : Int32) (h : AH) : Call sc n_X9_checkDrawn [aI x0] h = Run sc n_X9_checkDrawn 0 [aI x0] none [] h := Call_eq mt_X9_checkDrawn
theorem c0_X9_drawInitial (sc : SC) (p0 : Nat) (x1 : Int32) (h : AH) : Call sc n_X9_drawInitial [aD p0, aI x1] h = Run sc n_X9_drawInitial 0 [aD p0, aI x1, aU, aU] none [] h := Call_eq mt_X9_drawInitial
theorem c0_X9_differences (sc : SC) (p0 : Nat) (x1 : Int32) (x2 : Int32) (h : AH) : Call sc n_X9_differences [aD p0, aI x1, aI x2] h = Run sc n_X9_differences 0 [aD p0, aI x1, aI x2, aU, aU, aU, aU, aU] none [] h := Call_eq mt_X9_differences
theorem c0_X9_meanSteps (sc : SC) (p0 : Nat) (x1 : Int32) (x2 : Int32) (h : AH) : Call sc n_X9_meanSteps [aD p0, aI x1, aI x2] h = Run sc n_X9_meanSteps 0 [aD p0, aI x1, aI x2, aU, aU, aU] none [] h := Call_eq mt_X9_meanSteps
theorem c0_X9_filledShare (sc : SC) (p0 : Nat) (h : AH) : Call sc n_X9_filledShare [aD p0] h = Run sc n_X9_filledShare 0 [aD p0, aU] none [] h := Call_eq mt_X9_filledShare
theorem c0_X9_save (sc : SC) (p0 : Nat) (h : AH) : Call sc n_X9_save [aD p0] h = Run sc n_X9_save 0 [aD p0] none [] h := Call_eq mt_X9_save
theorem c0_X9_restore (sc : SC) (p0 : Nat) (h : AH) : Call sc n_X9_restore [aD p0] h = Run sc n_X9_restore 0 [aD p0] none [] h := Call_eq mt_X9_restore
theorem c0_X4_sign (sc : SC) (c0 : Nat) (x1 : Int32) (h : AH) : Call sc n_X4_sign [aC c0, aI x1] h = Run sc n_X4_sign 0 [aC c0, aI x1] none [] h := Call_eq mt_X4_sign
theorem c0_X4_isMemoryAccess (sc : SC) (c0 : Nat) (h : AH) : Call sc n_X4_isMemoryAccess [aC c0] h = Run sc n_X4_isMemoryAccess 0 [aC c0] none [] h := Call_eq mt_X4_isMemoryAccess
theorem c0_X4_canFill (sc : SC) (c0 : Nat) (h : AH) : Call sc n_X4_canFill [aC c0] h = Run sc n_X4_canFill 0 [aC c0] none [] h := Call_eq mt_X4_canFill
theorem c0_X10_init (sc : SC) (p0 : Nat) (h : AH) : Call sc n_X10_init [aD p0] h = Run sc n_X10_init 0 [aD p0] none [] h := Call_eq mt_X10_init
theorem c0_X10_fail (sc : SC) (p0 : Nat) (x1 : Int32) (h : AH) : Call sc n_X10_fail [aD p0, aI x1] h = Run sc n_X10_fail 0 [aD p0, aI x1] none [] h := Call_eq mt_X10_fail
theorem c0_X10_feed (sc : SC) (p0 : Nat) (x1 : Int32) (h : AH) : Call sc n_X10_feed [aD p0, aI x1] h = Run sc n_X10_feed 0 [aD p0, aI x1] none [] h := Call_eq mt_X10_feed
theorem c0_X10_thrown (sc : SC) (p0 : Nat) (h : AH) : Call sc n_X10_thrown [aD p0] h = Run sc n_X10_thrown 0 [aD p0] none [] h := Call_eq mt_X10_thrown
theorem c0_X10_isIn (sc : SC) (x0 : Int32) (x1 : Int32) (x2 : Int32) (h : AH) : Call sc n_X10_isIn [aI x0, aI x1, aI x2] h = Run sc n_X10_isIn 0 [aI x0, aI x1, aI x2] none [] h := Call_eq mt_X10_isIn
theorem c0_X10_letterAt (sc : SC) (p0 : Nat) (x1 : Int32) (h : AH) : Call sc n_X10_letterAt [aD p0, aI x1] h = Run sc n_X10_letterAt 0 [aD p0, aI x1] none [] h := Call_eq mt_X10_letterAt
theorem c0_X10_isName (sc : SC) (p0 : Nat) (x1 : Int32) (x2 : Int32) (x3 : Int32) (x4 : Int32) (x5 : Int32) (x6 : Int32) (h : AH) : Call sc n_X10_isName [aD p0, aI x1, aI x2, aI x3, aI x4, aI x5, aI x6] h = Run sc n_X10_isName 0 [aD p0, aI x1, aI x2, aI x3, aI x4, aI x5, aI x6, aU] none [] h := Call_eq mt_X10_isName
theorem c0_X10_kindAt (sc : SC) (p0 : Nat) (x1 : Int32) (h : AH) : Call sc n_X10_kindAt [aD p0, aI x1] h = Run sc n_X10_kindAt 0 [aD p0, aI x1] none [] h := Call_eq mt_X10_kindAt
theorem c0_X10_fault (sc : SC) (p0 : Nat) (h : AH) : Call sc n_X10_fault [aD p0] h = Run sc n_X10_fault 0 [aD p0] none [] h := Call_eq mt_X10_fault
theorem c0_X10_nameLength (sc : SC) (x0 : Int32) (h : AH) : Call sc n_X10_nameLength [aI x0] h = Run sc n_X10_nameLength 0 [aI x0] none [] h := Call_eq mt_X10_nameLength
theorem c0_X10_operandsOf (sc : SC) (x0 : Int32) (h : AH) : Call sc n_X10_operandsOf [aI x0] h = Run sc n_X10_operandsOf 0 [aI x0] none [] h := Call_eq mt_X10_operandsOf
theorem c0_X10_sign (sc : SC) (p0 : Nat) (h : AH) : Call sc n_X10_sign [aD p0] h = Run sc n_X10_sign 0 [aD p0] none [] h := Call_eq mt_X10_sign
theorem c0_X10_isDigit (sc : SC) (p0 : Nat) (h : AH) : Call sc n_X10_isDigit [aD p0] h = Run sc n_X10_isDigit 0 [aD p0] none [] h := Call_eq mt_X10_isDigit
theorem c0_X10_readOperand (sc : SC) (p0 : Nat) (x1 : Int32) (h : AH) : Call sc n_X10_readOperand [aD p0, aI x1] h = Run sc n_X10_readOperand 0 [aD p0, aI x1, aU, aU, aU] none [] h := Call_eq mt_X10_readOperand
theorem c0_X10_readInstruction (sc : SC) (p0 : Nat) (h : AH) : Call sc n_X10_readInstruction [aD p0] h = Run sc n_X10_readInstruction 0 [aD p0, aU, aU, aU, aU] none [] h := Call_eq mt_X10_readInstruction
theorem c0_X10_isBranch (sc : SC) (x0 : Int32) (h : AH) : Call sc n_X10_isBranch [aI x0] h = Run sc n_X10_isBranch 0 [aI x0] none [] h := Call_eq mt_X10_isBranch
theorem c0_X10_isGood (sc : SC) (p0 : Nat) (x1 : Int32) (h : AH) : Call sc n_X10_isGood [aD p0, aI x1] h = Run sc n_X10_isGood 0 [aD p0, aI x1, aU, aU] none [] h := Call_eq mt_X10_isGood
theorem c0_X10_parse (sc : SC) (p0 : Nat) (h : AH) : Call sc n_X10_parse [aD p0] h = Run sc n_X10_parse 0 [aD p0, aU, aU, aU, aU] none [] h := Call_eq mt_X10_parse
theorem c0_X10_clear (sc : SC) (p0 : Nat) (h : AH) : Call sc n_X10_clear [aD p0] h = Run sc n_X10_clear 0 [aD p0, aU] none [] h := Call_eq mt_X10_clear
theorem c0_X10_instructions (sc : SC) (p0 : Nat) (h : AH) : Call sc n_X10_instructions [aD p0] h = Run sc n_X10_instructions 0 [aD p0] none [] h := Call_eq mt_X10_instructions
theorem c0_X10_instruction (sc : SC) (p0 : Nat) (x1 : Int32) (x2 : Int32) (h : AH) : Call sc n_X10_instruction [aD p0, aI x1, aI x2] h = Run sc n_X10_instruction 0 [aD p0, aI x1, aI x2] none [] h := Call_eq mt_X10_instruction
theorem c0_X10_remember (sc : SC) (p0 : Nat) (h : AH) : Call sc n_X10_remember [aD p0] h = Run sc n_X10_remember 0 [aD p0, aU] none [] h := Call_eq mt_X10_remember
theorem c0_X10_entryOf (sc : SC) (p0 : Nat) (x1 : Int32) (h : AH) : Call sc n_X10_entryOf [aD p0, aI x1] h = Run sc n_X10_entryOf 0 [aD p0, aI x1, aU, aU] none [] h := Call_eq mt_X10_entryOf
theorem c0_X10_put (sc : SC) (p0 : Nat) (x1 : Int32) (x2 : Int32) (x3 : Int32) (x4 : Int32) (x5 : Int32) (x6 : Int32) (h : AH) : Call sc n_X10_put [aD p0, aI x1, aI x2, aI x3, aI x4, aI x5, aI x6] h = Run sc n_X10_put 0 [aD p0, aI x1, aI x2, aI x3, aI x4, aI x5, aI x6, aU] none [] h := Call_eq mt_X10_put
theorem c0_X10_expand (sc : SC) (p0 : Nat) (h : AH) : Call sc n_X10_expand [aD p0] h = Run sc n_X10_expand 0 [aD p0, aU, aU, aU] none [] h := Call_eq mt_X10_expand
theorem c0_X10_entryMany (sc : SC) (p0 : Nat) (h : AH) : Call sc n_X10_entryMany [aD p0] h = Run sc n_X10_entryMany 0 [aD p0] none [] h := Call_eq mt_X10_entryMany
theorem c0_X10_entries (sc : SC) (p0 : Nat) (h : AH) : Call sc n_X10_entries [aD p0] h = Run sc n_X10_entries 0 [aD p0] none [] h := Call_eq mt_X10_entries
theorem c0_X10_isEntry (sc : SC) (p0 : Nat) (x1 : Int32) (h : AH) : Call sc n_X10_isEntry [aD p0, aI x1] h = Run sc n_X10_isEntry 0 [aD p0, aI x1] none [] h := Call_eq mt_X10_isEntry
theorem c0_X10_at (sc : SC) (p0 : Nat) (x1 : Int32) (x2 : Int32) (h : AH) : Call sc n_X10_at [aD p0, aI x1, aI x2] h = Run sc n_X10_at 0 [aD p0, aI x1, aI x2] none [] h := Call_eq mt_X10_at
theorem c0_X10_isSlot (sc : SC) (p0 : Nat) (x1 : Int32) (h : AH) : Call sc n_X10_isSlot [aD p0, aI x1] h = Run sc n_X10_isSlot 0 [aD p0, aI x1] none [] h := Call_eq mt_X10_isSlot
theorem c0_X10_targeted (sc : SC) (p0 : Nat) (x1 : Int32) (h : AH) : Call sc n_X10_targeted [aD p0, aI x1] h = Run sc n_X10_targeted 0 [aD p0, aI x1, aU, aU] none [] h := Call_eq mt_X10_targeted
theorem c0_X10_entry (sc : SC) (p0 : Nat) (x1 : Int32) (x2 : Int32) (h : AH) : Call sc n_X10_entry [aD p0, aI x1, aI x2] h = Run sc n_X10_entry 0 [aD p0, aI x1, aI x2] none [] h := Call_eq mt_X10_entry
theorem c0_X10_meet (sc : SC) (p0 : Nat) (x1 : Int32) (h : AH) : Call sc n_X10_meet [aD p0, aI x1] h = Run sc n_X10_meet 0 [aD p0, aI x1] none [] h := Call_eq mt_X10_meet
theorem c0_X10_findReached (sc : SC) (p0 : Nat) (h : AH) : Call sc n_X10_findReached [aD p0] h = Run sc n_X10_findReached 0 [aD p0, aU, aU, aU] none [] h := Call_eq mt_X10_findReached
theorem c0_X10_count (sc : SC) (p0 : Nat) (x1 : Int32) (h : AH) : Call sc n_X10_count [aD p0, aI x1] h = Run sc n_X10_count 0 [aD p0, aI x1, aU, aU, aU, aU] none [] h := Call_eq mt_X10_count
theorem c0_X10_reads (sc : SC) (p0 : Nat) (x1 : Int32) (h : AH) : Call sc n_X10_reads [aD p0, aI x1] h = Run sc n_X10_reads 0 [aD p0, aI x1, aU, aU] none [] h := Call_eq mt_X10_reads
theorem c0_X10_writes (sc : SC) (p0 : Nat) (x1 : Int32) (h : AH) : Call sc n_X10_writes [aD p0, aI x1] h = Run sc n_X10_writes 0 [aD p0, aI x1] none [] h := Call_eq mt_X10_writes
theorem c0_X10_through (sc : SC) (p0 : Nat) (x1 : Int32) (x2 : Int32) (h : AH) : Call sc n_X10_through [aD p0, aI x1, aI x2] h = Run sc n_X10_through 0 [aD p0, aI x1, aI x2] none [] h := Call_eq mt_X10_through
theorem c0_X10_liveNow (sc : SC) (p0 : Nat) (x1 : Int32) (h : AH) : Call sc n_X10_liveNow [aD p0, aI x1] h = Run sc n_X10_liveNow 0 [aD p0, aI x1, aU, aU, aU] none [] h := Call_eq mt_X10_liveNow
theorem c0_X10_findLives (sc : SC) (p0 : Nat) (h : AH) : Call sc n_X10_findLives [aD p0] h = Run sc n_X10_findLives 0 [aD p0, aU, aU] none [] h := Call_eq mt_X10_findLives
theorem c0_X10_live (sc : SC) (p0 : Nat) (x1 : Int32) (h : AH) : Call sc n_X10_live [aD p0, aI x1] h = Run sc n_X10_live 0 [aD p0, aI x1] none [] h := Call_eq mt_X10_live
theorem c0_X10_areIndependent (sc : SC) (p0 : Nat) (x1 : Int32) (x2 : Int32) (h : AH) : Call sc n_X10_areIndependent [aD p0, aI x1, aI x2] h = Run sc n_X10_areIndependent 0 [aD p0, aI x1, aI x2, aU, aU] none [] h := Call_eq mt_X10_areIndependent
theorem c0_X10_isIndependent (sc : SC) (p0 : Nat) (x1 : Int32) (x2 : Int32) (h : AH) : Call sc n_X10_isIndependent [aD p0, aI x1, aI x2] h = Run sc n_X10_isIndependent 0 [aD p0, aI x1, aI x2] none [] h := Call_eq mt_X10_isIndependent
theorem c0_X10_beforeCandidate (sc : SC) (p0 : Nat) (x1 : Int32) (h : AH) : Call sc n_X10_beforeCandidate [aD p0, aI x1] h = Run sc n_X10_beforeCandidate 0 [aD p0, aI x1, aU, aU, aU, aU] none [] h := Call_eq mt_X10_beforeCandidate
theorem c0_X10_isPlain (sc : SC) (p0 : Nat) (x1 : Int32) (h : AH) : Call sc n_X10_isPlain [aD p0, aI x1] h = Run sc n_X10_isPlain 0 [aD p0, aI x1, aU] none [] h := Call_eq mt_X10_isPlain
theorem c0_X10_targetCandidate (sc : SC) (p0 : Nat) (x1 : Int32) (h : AH) : Call sc n_X10_targetCandidate [aD p0, aI x1] h = Run sc n_X10_targetCandidate 0 [aD p0, aI x1, aU] none [] h := Call_eq mt_X10_targetCandidate
theorem c0_X10_fallCandidate (sc : SC) (p0 : Nat) (x1 : Int32) (h : AH) : Call sc n_X10_fallCandidate [aD p0, aI x1] h = Run sc n_X10_fallCandidate 0 [aD p0, aI x1, aU] none [] h := Call_eq mt_X10_fallCandidate
theorem c0_X10_candidateOf (sc : SC) (p0 : Nat) (x1 : Int32) (x2 : Int32) (h : AH) : Call sc n_X10_candidateOf [aD p0, aI x1, aI x2] h = Run sc n_X10_candidateOf 0 [aD p0, aI x1, aI x2] none [] h := Call_eq mt_X10_candidateOf
theorem c0_X10_problem (sc : SC) (p0 : Nat) (x1 : Int32) (x2 : Int32) (h : AH) : Call sc n_X10_problem [aD p0, aI x1, aI x2] h = Run sc n_X10_problem 0 [aD p0, aI x1, aI x2] none [] h := Call_eq mt_X10_problem
theorem c0_X10_candidate (sc : SC) (p0 : Nat) (x1 : Int32) (x2 : Int32) (h : AH) : Call sc n_X10_candidate [aD p0, aI x1, aI x2] h = Run sc n_X10_candidate 0 [aD p0, aI x1, aI x2] none [] h := Call_eq mt_X10_candidate
theorem c0_X10_take (sc : SC) (p0 : Nat) (x1 : Int32) (h : AH) : Call sc n_X10_take [aD p0, aI x1] h = Run sc n_X10_take 0 [aD p0, aI x1, aU] none [] h := Call_eq mt_X10_take
theorem c0_X10_doFill (sc : SC) (p0 : Nat) (x1 : Int32) (x2 : Int32) (x3 : Int32) (h : AH) : Call sc n_X10_doFill [aD p0, aI x1, aI x2, aI x3] h = Run sc n_X10_doFill 0 [aD p0, aI x1, aI x2, aI x3] none [] h := Call_eq mt_X10_doFill
theorem c0_X10_fill (sc : SC) (p0 : Nat) (x1 : Int32) (x2 : Int32) (h : AH) : Call sc n_X10_fill [aD p0, aI x1, aI x2] h = Run sc n_X10_fill 0 [aD p0, aI x1, aI x2] none [] h := Call_eq mt_X10_fill
theorem c0_X10_fillAll (sc : SC) (p0 : Nat) (x1 : Int32) (x2 : Int32) (h : AH) : Call sc n_X10_fillAll [aD p0, aI x1, aI x2] h = Run sc n_X10_fillAll 0 [aD p0, aI x1, aI x2, aU, aU, aU, aU, aU, aU] none [] h := Call_eq mt_X10_fillAll
theorem c0_X10_undo (sc : SC) (p0 : Nat) (h : AH) : Call sc n_X10_undo [aD p0] h = Run sc n_X10_undo 0 [aD p0, aU] none [] h := Call_eq mt_X10_undo
theorem c0_X10_add (sc : SC) (p0 : Nat) (x1 : Int32) (h : AH) : Call sc n_X10_add [aD p0, aI x1] h = Run sc n_X10_add 0 [aD p0, aI x1] none [] h := Call_eq mt_X10_add
theorem c0_X10_addName (sc : SC) (p0 : Nat) (x1 : Int32) (x2 : Int32) (x3 : Int32) (x4 : Int32) (x5 : Int32) (h : AH) : Call sc n_X10_addName [aD p0, aI x1, aI x2, aI x3, aI x4, aI x5] h = Run sc n_X10_addName 0 [aD p0, aI x1, aI x2, aI x3, aI x4, aI x5] none [] h := Call_eq mt_X10_addName
theorem c0_X10_addKind (sc : SC) (p0 : Nat) (x1 : Int32) (h : AH) : Call sc n_X10_addKind [aD p0, aI x1] h = Run sc n_X10_addKind 0 [aD p0, aI x1] none [] h := Call_eq mt_X10_addKind
theorem c0_X10_addNumber (sc : SC) (p0 : Nat) (x1 : Int32) (h : AH) : Call sc n_X10_addNumber [aD p0, aI x1] h = Run sc n_X10_addNumber 0 [aD p0, aI x1, aU] none [] h := Call_eq mt_X10_addNumber
theorem c0_X10_write (sc : SC) (p0 : Nat) (h : AH) : Call sc n_X10_write [aD p0] h = Run sc n_X10_write 0 [aD p0, aU, aU] none [] h := Call_eq mt_X10_write
theorem c0_X10_text (sc : SC) (p0 : Nat) (x1 : Int32) (h : AH) : Call sc n_X10_text [aD p0, aI x1] h = Run sc n_X10_text 0 [aD p0, aI x1] none [] h := Call_eq mt_X10_text
theorem c0_X10_placeOf (sc : SC) (x0 : Int32) (x1 : Int32) (h : AH) : Call sc n_X10_placeOf [aI x0, aI x1] h = Run sc n_X10_placeOf 0 [aI x0, aI x1] none [] h := Call_eq mt_X10_placeOf
theorem c0_X10_setInitial (sc : SC) (p0 : Nat) (x1 : Int32) (x2 : Int32) (x3 : Int32) (h : AH) : Call sc n_X10_setInitial [aD p0, aI x1, aI x2, aI x3] h = Run sc n_X10_setInitial 0 [aD p0, aI x1, aI x2, aI x3, aU] none [] h := Call_eq mt_X10_setInitial
theorem c0_X10_partOf (sc : SC) (p0 : Nat) (x1 : Int32) (x2 : Int32) (x3 : Int32) (h : AH) : Call sc n_X10_partOf [aD p0, aI x1, aI x2, aI x3] h = Run sc n_X10_partOf 0 [aD p0, aI x1, aI x2, aI x3] none [] h := Call_eq mt_X10_partOf
theorem c0_X10_execute (sc : SC) (p0 : Nat) (x1 : Int32) (x2 : Int32) (h : AH) : Call sc n_X10_execute [aD p0, aI x1, aI x2] h = Run sc n_X10_execute 0 [aD p0, aI x1, aI x2, aU, aU, aU] none [] h := Call_eq mt_X10_execute
theorem c0_X10_isTaken (sc : SC) (p0 : Nat) (x1 : Int32) (x2 : Int32) (h : AH) : Call sc n_X10_isTaken [aD p0, aI x1, aI x2] h = Run sc n_X10_isTaken 0 [aD p0, aI x1, aI x2, aU, aU, aU] none [] h := Call_eq mt_X10_isTaken
theorem c0_X10_runs (sc : SC) (p0 : Nat) (x1 : Int32) (x2 : Int32) (h : AH) : Call sc n_X10_runs [aD p0, aI x1, aI x2] h = Run sc n_X10_runs 0 [aD p0, aI x1, aI x2, aU, aU, aU, aU] none [] h := Call_eq mt_X10_runs
theorem c0_X10_run (sc : SC) (p0 : Nat) (x1 : Int32) (x2 : Int32) (h : AH) : Call sc n_X10_run [aD p0, aI x1, aI x2] h = Run sc n_X10_run 0 [aD p0, aI x1, aI x2, aU] none [] h := Call_eq mt_X10_run
theorem c0_X10_finalValue (sc : SC) (p0 : Nat) (x1 : Int32) (x2 : Int32) (h : AH) : Call sc n_X10_finalValue [aD p0, aI x1, aI x2] h = Run sc n_X10_finalValue 0 [aD p0, aI x1, aI x2] none [] h := Call_eq mt_X10_finalValue
theorem c0_X10_outputs (sc : SC) (p0 : Nat) (h : AH) : Call sc n_X10_outputs [aD p0] h = Run sc n_X10_outputs 0 [aD p0] none [] h := Call_eq mt_X10_outputs
theorem c0_X10_output (sc : SC) (p0 : Nat) (x1 : Int32) (h : AH) : Call sc n_X10_output [aD p0, aI x1] h = Run sc n_X10_output 0 [aD p0, aI x1] none [] h := Call_eq mt_X10_output
theorem c0_X10_draw (sc : SC) (p0 : Nat) (h : AH) : Call sc n_X10_draw [aD p0] h = Run sc n_X10_draw 0 [aD p0, aU] none [] h := Call_eq mt_X10_draw
theorem c0_X10_runsDrawn (sc : SC) (p0 : Nat) (x1 : Int32) (h : AH) : Call sc n_X10_runsDrawn [aD p0, aI x1] h = Run sc n_X10_runsDrawn 0 [aD p0, aI x1, aU] none [] h := Call_eq mt_X10_runsDrawn
theorem c0_X10_isDifferent (sc : SC) (p0 : Nat) (h : AH) : Call sc n_X10_isDifferent [aD p0] h = Run sc n_X10_isDifferent 0 [aD p0, aU, aU, aU] none [] h := Call_eq mt_X10_isDifferent
theorem c0_X10_differences (sc : SC) (p0 : Nat) (x1 : Int32) (x2 : Int32) (h : AH) : Call sc n_X10_differences [aD p0, aI x1, aI x2] h = Run sc n_X10_differences 0 [aD p0, aI x1, aI x2, aU, aU] none [] h := Call_eq mt_X10_differences
theorem c0_X10_meanSteps (sc : SC) (p0 : Nat) (x1 : Int32) (x2 : Int32) (h : AH) : Call sc n_X10_meanSteps [aD p0, aI x1, aI x2] h = Run sc n_X10_meanSteps 0 [aD p0, aI x1, aI x2, aU, aU] none [] h := Call_eq mt_X10_meanSteps
theorem c0_X10_filledShare (sc : SC) (p0 : Nat) (h : AH) : Call sc n_X10_filledShare [aD p0] h = Run sc n_X10_filledShare 0 [aD p0, aU, aU, aU] none [] h := Call_eq mt_X10_filledShare
theorem c0_X10_pass (sc : SC) (p0 : Nat) (p1 : Nat) (p2 : Nat) (h : AH) : Call sc n_X10_pass [aD p0, aD p1, aD p2] h = Run sc n_X10_pass 0 [aD p0, aD p1, aD p2, aU] none [] h := Call_eq mt_X10_pass
theorem c0_X10_save (sc : SC) (p0 : Nat) (h : AH) : Call sc n_X10_save [aD p0] h = Run sc n_X10_save 0 [aD p0] none [] h := Call_eq mt_X10_save
theorem c0_X10_restore (sc : SC) (p0 : Nat) (h : AH) : Call sc n_X10_restore [aD p0] h = Run sc n_X10_restore 0 [aD p0] none [] h := Call_eq mt_X10_restore
theorem c0_L_feed (sc : SC) (p0 : Nat) (x1 : Int32) (p2 : Nat) (h : AH) : Call sc n_L_feed [aD p0, aI x1, aD p2] h = Run sc n_L_feed 0 [aD p0, aI x1, aD p2, aU] none [] h := Call_eq mt_L_feed
theorem c0_L_parse (sc : SC) (p0 : Nat) (p1 : Nat) (h : AH) : Call sc n_L_parse [aD p0, aD p1] h = Run sc n_L_parse 0 [aD p0, aD p1, aU] none [] h := Call_eq mt_L_parse
theorem c0_L_instruction (sc : SC) (p0 : Nat) (x1 : Int32) (x2 : Int32) (p3 : Nat) (h : AH) : Call sc n_L_instruction [aD p0, aI x1, aI x2, aD p3] h = Run sc n_L_instruction 0 [aD p0, aI x1, aI x2, aD p3, aU] none [] h := Call_eq mt_L_instruction
theorem c0_L_entry (sc : SC) (p0 : Nat) (x1 : Int32) (x2 : Int32) (p3 : Nat) (h : AH) : Call sc n_L_entry [aD p0, aI x1, aI x2, aD p3] h = Run sc n_L_entry 0 [aD p0, aI x1, aI x2, aD p3, aU] none [] h := Call_eq mt_L_entry
theorem c0_L_count (sc : SC) (p0 : Nat) (x1 : Int32) (p2 : Nat) (h : AH) : Call sc n_L_count [aD p0, aI x1, aD p2] h = Run sc n_L_count 0 [aD p0, aI x1, aD p2, aU] none [] h := Call_eq mt_L_count
theorem c0_L_live (sc : SC) (p0 : Nat) (x1 : Int32) (p2 : Nat) (h : AH) : Call sc n_L_live [aD p0, aI x1, aD p2] h = Run sc n_L_live 0 [aD p0, aI x1, aD p2, aU] none [] h := Call_eq mt_L_live
theorem c0_L_isIndependent (sc : SC) (p0 : Nat) (x1 : Int32) (x2 : Int32) (p3 : Nat) (h : AH) : Call sc n_L_isIndependent [aD p0, aI x1, aI x2, aD p3] h = Run sc n_L_isIndependent 0 [aD p0, aI x1, aI x2, aD p3, aU] none [] h := Call_eq mt_L_isIndependent
theorem c0_L_candidate (sc : SC) (p0 : Nat) (x1 : Int32) (x2 : Int32) (p3 : Nat) (h : AH) : Call sc n_L_candidate [aD p0, aI x1, aI x2, aD p3] h = Run sc n_L_candidate 0 [aD p0, aI x1, aI x2, aD p3, aU] none [] h := Call_eq mt_L_candidate
theorem c0_L_fill (sc : SC) (p0 : Nat) (x1 : Int32) (x2 : Int32) (p3 : Nat) (h : AH) : Call sc n_L_fill [aD p0, aI x1, aI x2, aD p3] h = Run sc n_L_fill 0 [aD p0, aI x1, aI x2, aD p3, aU] none [] h := Call_eq mt_L_fill
theorem c0_L_fillAll (sc : SC) (p0 : Nat) (x1 : Int32) (x2 : Int32) (p3 : Nat) (h : AH) : Call sc n_L_fillAll [aD p0, aI x1, aI x2, aD p3] h = Run sc n_L_fillAll 0 [aD p0, aI x1, aI x2, aD p3, aU] none [] h := Call_eq mt_L_fillAll
theorem c0_L_undo (sc : SC) (p0 : Nat) (p1 : Nat) (h : AH) : Call sc n_L_undo [aD p0, aD p1] h = Run sc n_L_undo 0 [aD p0, aD p1, aU] none [] h := Call_eq mt_L_undo
theorem c0_L_text (sc : SC) (p0 : Nat) (x1 : Int32) (p2 : Nat) (h : AH) : Call sc n_L_text [aD p0, aI x1, aD p2] h = Run sc n_L_text 0 [aD p0, aI x1, aD p2, aU] none [] h := Call_eq mt_L_text
theorem c0_L_setInitial (sc : SC) (p0 : Nat) (x1 : Int32) (x2 : Int32) (x3 : Int32) (p4 : Nat) (h : AH) : Call sc n_L_setInitial [aD p0, aI x1, aI x2, aI x3, aD p4] h = Run sc n_L_setInitial 0 [aD p0, aI x1, aI x2, aI x3, aD p4, aU] none [] h := Call_eq mt_L_setInitial
theorem c0_L_run (sc : SC) (p0 : Nat) (x1 : Int32) (x2 : Int32) (p3 : Nat) (h : AH) : Call sc n_L_run [aD p0, aI x1, aI x2, aD p3] h = Run sc n_L_run 0 [aD p0, aI x1, aI x2, aD p3, aU] none [] h := Call_eq mt_L_run
theorem c0_L_finalValue (sc : SC) (p0 : Nat) (x1 : Int32) (x2 : Int32) (p3 : Nat) (h : AH) : Call sc n_L_finalValue [aD p0, aI x1, aI x2, aD p3] h = Run sc n_L_finalValue 0 [aD p0, aI x1, aI x2, aD p3, aU] none [] h := Call_eq mt_L_finalValue
theorem c0_L_outputs (sc : SC) (p0 : Nat) (p1 : Nat) (h : AH) : Call sc n_L_outputs [aD p0, aD p1] h = Run sc n_L_outputs 0 [aD p0, aD p1, aU] none [] h := Call_eq mt_L_outputs
theorem c0_L_output (sc : SC) (p0 : Nat) (x1 : Int32) (p2 : Nat) (h : AH) : Call sc n_L_output [aD p0, aI x1, aD p2] h = Run sc n_L_output 0 [aD p0, aI x1, aD p2, aU] none [] h := Call_eq mt_L_output
theorem c0_L_differences (sc : SC) (p0 : Nat) (x1 : Int32) (x2 : Int32) (p3 : Nat) (h : AH) : Call sc n_L_differences [aD p0, aI x1, aI x2, aD p3] h = Run sc n_L_differences 0 [aD p0, aI x1, aI x2, aD p3, aU] none [] h := Call_eq mt_L_differences
theorem c0_L_meanSteps (sc : SC) (p0 : Nat) (x1 : Int32) (x2 : Int32) (p3 : Nat) (h : AH) : Call sc n_L_meanSteps [aD p0, aI x1, aI x2, aD p3] h = Run sc n_L_meanSteps 0 [aD p0, aI x1, aI x2, aD p3, aU] none [] h := Call_eq mt_L_meanSteps
theorem c0_L_filledShare (sc : SC) (p0 : Nat) (p1 : Nat) (h : AH) : Call sc n_L_filledShare [aD p0, aD p1] h = Run sc n_L_filledShare 0 [aD p0, aD p1, aU] none [] h := Call_eq mt_L_filledShare
theorem c0_L_restore (sc : SC) (p0 : Nat) (p1 : Nat) (h : AH) : Call sc n_L_restore [aD p0, aD p1] h = Run sc n_L_restore 0 [aD p0, aD p1, aU] none [] h := Call_eq mt_L_restore
