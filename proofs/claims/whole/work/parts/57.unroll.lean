/-! a loop turned once, for each loop -/
theorem u_X11_cameByAnotherHeap_2 (n : Nat) : f_X11_cameByAnotherHeap_2 (n + 1) = b_X11_cameByAnotherHeap_2 (f_X11_cameByAnotherHeap_2 n) := rfl
theorem u_X9_value_8 (n : Nat) : f_X9_value_8 (n + 1) = b_X9_value_8 (f_X9_value_8 n) := rfl
theorem u_X2_consider_20 (n : Nat) : f_X2_consider_20 (n + 1) = b_X2_consider_20 (f_X2_consider_20 n) := rfl
theorem u_X4_pieces_4 (n : Nat) : f_X4_pieces_4 (n + 1) = b_X4_pieces_4 (f_X4_pieces_4 n) := rfl
theorem u_X2_look_47 (q16 : Option Nat → Option Nat → Option Nat → Int32 → Int32 → Mem → Option (Unit × Mem)) (n : Nat) : f_X2_look_47 q16 (n + 1) = b_X2_look_47 q16 (f_X2_look_47 q16 n) := rfl
theorem u_X2_look_16 (n : Nat) : f_X2_look_16 (n + 1) = b_X2_look_16 (f_X2_look_16 n) := rfl
theorem u_X4_stock_4 (n : Nat) : f_X4_stock_4 (n + 1) = b_X4_stock_4 (f_X4_stock_4 n) := rfl
theorem u_X11_again_21 (n : Nat) : f_X11_again_21 (n + 1) = b_X11_again_21 (f_X11_again_21 n) := rfl
theorem u_X0_hasGoodNo_2 (n : Nat) : f_X0_hasGoodNo_2 (n + 1) = b_X0_hasGoodNo_2 (f_X0_hasGoodNo_2 n) := rfl
theorem u_X0_losingNoes_5 (n : Nat) : f_X0_losingNoes_5 (n + 1) = b_X0_losingNoes_5 (f_X0_losingNoes_5 n) := rfl
theorem u_X0_decide_5 (n : Nat) : f_X0_decide_5 (n + 1) = b_X0_decide_5 (f_X0_decide_5 n) := rfl
theorem u_X0_touchEntries_33 (n : Nat) : f_X0_touchEntries_33 (n + 1) = b_X0_touchEntries_33 (f_X0_touchEntries_33 n) := rfl
theorem u_X0_decideAll_54 (q4 : Option Nat → Int32 → Int32 → Mem → Option (Unit × Mem)) (n : Nat) : f_X0_decideAll_54 q4 (n + 1) = b_X0_decideAll_54 q4 (f_X0_decideAll_54 q4 n) := rfl
theorem u_X0_decideAll_29 (q4 : Option Nat → Int32 → Int32 → Mem → Option (Unit × Mem)) (n : Nat) : f_X0_decideAll_29 q4 (n + 1) = b_X0_decideAll_29 q4 (f_X0_decideAll_29 q4 n) := rfl
theorem u_X0_decideAll_4 (n : Nat) : f_X0_decideAll_4 (n + 1) = b_X0_decideAll_4 (f_X0_decideAll_4 n) := rfl
theorem u_X0_linkExits_12 (n : Nat) : f_X0_linkExits_12 (n + 1) = b_X0_linkExits_12 (f_X0_linkExits_12 n) := rfl
theorem u_X0_prepare_90 (n : Nat) : f_X0_prepare_90 (n + 1) = b_X0_prepare_90 (f_X0_prepare_90 n) := rfl
theorem u_X0_prepare_49 (n : Nat) : f_X0_prepare_49 (n + 1) = b_X0_prepare_49 (f_X0_prepare_49 n) := rfl
theorem u_X0_prepare_2 (n : Nat) : f_X0_prepare_2 (n + 1) = b_X0_prepare_2 (f_X0_prepare_2 n) := rfl
theorem u_J7_fill_53178_5 (n : Nat) : f_J7_fill_53178_5 (n + 1) = b_J7_fill_53178_5 (f_J7_fill_53178_5 n) := rfl
theorem u_X8_numberOf_24 (n : Nat) : f_X8_numberOf_24 (n + 1) = b_X8_numberOf_24 (f_X8_numberOf_24 n) := rfl
theorem u_X8_expand_144 (q77 : Option Nat → Int32 → Int32 → Mem → Option (Unit × Mem)) (n : Nat) : f_X8_expand_144 q77 (n + 1) = b_X8_expand_144 q77 (f_X8_expand_144 q77 n) := rfl
theorem u_X8_expand_77 (n : Nat) : f_X8_expand_77 (n + 1) = b_X8_expand_77 (f_X8_expand_77 n) := rfl
theorem u_X8_explore_46 (n : Nat) : f_X8_explore_46 (n + 1) = b_X8_explore_46 (f_X8_explore_46 n) := rfl
theorem u_X11_balanced_25 (n : Nat) : f_X11_balanced_25 (n + 1) = b_X11_balanced_25 (f_X11_balanced_25 n) := rfl
theorem u_X10_count_4 (n : Nat) : f_X10_count_4 (n + 1) = b_X10_count_4 (f_X10_count_4 n) := rfl
theorem u_X10_member_4 (n : Nat) : f_X10_member_4 (n + 1) = b_X10_member_4 (f_X10_member_4 n) := rfl
theorem u_X10_nth_5 (n : Nat) : f_X10_nth_5 (n + 1) = b_X10_nth_5 (f_X10_nth_5 n) := rfl
theorem u_X11_drawnWinner_16 (n : Nat) : f_X11_drawnWinner_16 (n + 1) = b_X11_drawnWinner_16 (f_X11_drawnWinner_16 n) := rfl
theorem u_X11_drawn_48 (n : Nat) : f_X11_drawn_48 (n + 1) = b_X11_drawn_48 (f_X11_drawn_48 n) := rfl
theorem u_X5_append_3 (n : Nat) : f_X5_append_3 (n + 1) = b_X5_append_3 (f_X5_append_3 n) := rfl
theorem u_X0_pickGood_4 (n : Nat) : f_X0_pickGood_4 (n + 1) = b_X0_pickGood_4 (f_X0_pickGood_4 n) := rfl
theorem u_X10_init_37 (q16 : Option Nat → Int32 → Int32 → Mem → Option (Unit × Mem)) (q26 : Option Nat → Int32 → Int32 → Int32 → Mem → Option (Unit × Mem)) (n : Nat) : f_X10_init_37 q16 q26 (n + 1) = b_X10_init_37 q16 q26 (f_X10_init_37 q16 q26 n) := rfl
theorem u_X10_init_26 (q16 : Option Nat → Int32 → Int32 → Mem → Option (Unit × Mem)) (n : Nat) : f_X10_init_26 q16 (n + 1) = b_X10_init_26 q16 (f_X10_init_26 q16 n) := rfl
theorem u_X10_init_16 (n : Nat) : f_X10_init_16 (n + 1) = b_X10_init_16 (f_X10_init_16 n) := rfl
theorem u_X2_init_58 (n : Nat) : f_X2_init_58 (n + 1) = b_X2_init_58 (f_X2_init_58 n) := rfl
theorem u_X6_init_41 (n : Nat) : f_X6_init_41 (n + 1) = b_X6_init_41 (f_X6_init_41 n) := rfl
theorem u_X11_init_123 (n : Nat) : f_X11_init_123 (n + 1) = b_X11_init_123 (f_X11_init_123 n) := rfl
theorem u_X11_judge_16 (n : Nat) : f_X11_judge_16 (n + 1) = b_X11_judge_16 (f_X11_judge_16 n) := rfl
theorem u_X0_lineDone_3 (n : Nat) : f_X0_lineDone_3 (n + 1) = b_X0_lineDone_3 (f_X0_lineDone_3 n) := rfl
theorem u_X0_noLength_33 (n : Nat) : f_X0_noLength_33 (n + 1) = b_X0_noLength_33 (f_X0_noLength_33 n) := rfl
theorem u_X0_lineNo_2 (n : Nat) : f_X0_lineNo_2 (n + 1) = b_X0_lineNo_2 (f_X0_lineNo_2 n) := rfl
theorem u_X0_offerLength_31 (n : Nat) : f_X0_offerLength_31 (n + 1) = b_X0_offerLength_31 (f_X0_offerLength_31 n) := rfl
theorem u_X0_lineOffer_2 (n : Nat) : f_X0_lineOffer_2 (n + 1) = b_X0_lineOffer_2 (f_X0_lineOffer_2 n) := rfl
theorem u_X0_lineAt_26 (n : Nat) : f_X0_lineAt_26 (n + 1) = b_X0_lineAt_26 (f_X0_lineAt_26 n) := rfl
theorem u_X3_weigh_10 (n : Nat) : f_X3_weigh_10 (n + 1) = b_X3_weigh_10 (f_X3_weigh_10 n) := rfl
theorem u_X3_greatest_13 (n : Nat) : f_X3_greatest_13 (n + 1) = b_X3_greatest_13 (f_X3_greatest_13 n) := rfl
theorem u_X3_allowed_32 (q11 : Option Nat → Option Nat → Option Nat → Int32 → Int32 → Mem → Option (Int32 × Mem)) (n : Nat) : f_X3_allowed_32 q11 (n + 1) = b_X3_allowed_32 q11 (f_X3_allowed_32 q11 n) := rfl
theorem u_X3_allowed_11 (n : Nat) : f_X3_allowed_11 (n + 1) = b_X3_allowed_11 (f_X3_allowed_11 n) := rfl
theorem u_X3_offered_61 (q24 : Option Nat → Int32 → Int32 → Int32 → Int32 → Mem → Option (Int32 × Mem)) (n : Nat) : f_X3_offered_61 q24 (n + 1) = b_X3_offered_61 q24 (f_X3_offered_61 q24 n) := rfl
theorem u_X3_offered_24 (n : Nat) : f_X3_offered_24 (n + 1) = b_X3_offered_24 (f_X3_offered_24 n) := rfl
theorem u_X11_byWays_2 (n : Nat) : f_X11_byWays_2 (n + 1) = b_X11_byWays_2 (f_X11_byWays_2 n) := rfl
theorem u_X0_hasCircle_105 (q74 : Option Nat → Int32 → Mem → Option (Int32 × Mem)) (n : Nat) : f_X0_hasCircle_105 q74 (n + 1) = b_X0_hasCircle_105 q74 (f_X0_hasCircle_105 q74 n) := rfl
theorem u_X0_hasCircle_74 (n : Nat) : f_X0_hasCircle_74 (n + 1) = b_X0_hasCircle_74 (f_X0_hasCircle_74 n) := rfl
theorem u_X0_hasCircle_7 (n : Nat) : f_X0_hasCircle_7 (n + 1) = b_X0_hasCircle_7 (f_X0_hasCircle_7 n) := rfl
theorem u_J1_indexOfChar_4cfef_7 (n : Nat) : f_J1_indexOfChar_4cfef_7 (n + 1) = b_J1_indexOfChar_4cfef_7 (f_J1_indexOfChar_4cfef_7 n) := rfl
theorem u_X5_word_12 (n : Nat) : f_X5_word_12 (n + 1) = b_X5_word_12 (f_X5_word_12 n) := rfl
theorem u_X5_advance_171 (n : Nat) : f_X5_advance_171 (n + 1) = b_X5_advance_171 (f_X5_advance_171 n) := rfl
theorem u_X5_advance_95 (n : Nat) : f_X5_advance_95 (n + 1) = b_X5_advance_95 (f_X5_advance_95 n) := rfl
theorem u_X5_advance_0 (n : Nat) : f_X5_advance_0 (n + 1) = b_X5_advance_0 (f_X5_advance_0 n) := rfl
theorem u_X5_level_36 (self : Nat → Option Nat → Int32 → Int32 → Mem → Option (Unit × Mem)) (n : Nat) : f_X5_level_36 self (n + 1) = b_X5_level_36 self (f_X5_level_36 self n) := rfl
theorem u_X6_chain_7 (n : Nat) : f_X6_chain_7 (n + 1) = b_X6_chain_7 (f_X6_chain_7 n) := rfl
theorem u_X6_clear_33 (n : Nat) : f_X6_clear_33 (n + 1) = b_X6_clear_33 (f_X6_clear_33 n) := rfl
theorem u_X6_clear_12 (n : Nat) : f_X6_clear_12 (n + 1) = b_X6_clear_12 (f_X6_clear_12 n) := rfl
theorem u_X5_read_33 (n : Nat) : f_X5_read_33 (n + 1) = b_X5_read_33 (f_X5_read_33 n) := rfl
theorem u_X12_boardCode_8 (n : Nat) : f_X12_boardCode_8 (n + 1) = b_X12_boardCode_8 (f_X12_boardCode_8 n) := rfl
theorem u_X12_heapCode_4 (n : Nat) : f_X12_heapCode_4 (n + 1) = b_X12_heapCode_4 (f_X12_heapCode_4 n) := rfl
theorem u_X12_piecesOf_4 (n : Nat) : f_X12_piecesOf_4 (n + 1) = b_X12_piecesOf_4 (f_X12_piecesOf_4 n) := rfl
theorem u_X12_saysOf_4 (n : Nat) : f_X12_saysOf_4 (n + 1) = b_X12_saysOf_4 (f_X12_saysOf_4 n) := rfl
theorem u_X12_clauseFor_2 (n : Nat) : f_X12_clauseFor_2 (n + 1) = b_X12_clauseFor_2 (f_X12_clauseFor_2 n) := rfl
theorem u_X12_sumOf_6 (n : Nat) : f_X12_sumOf_6 (n + 1) = b_X12_sumOf_6 (f_X12_sumOf_6 n) := rfl
theorem u_X12_canDo_13 (n : Nat) : f_X12_canDo_13 (n + 1) = b_X12_canDo_13 (f_X12_canDo_13 n) := rfl
theorem u_X12_laysMoves_7 (n : Nat) : f_X12_laysMoves_7 (n + 1) = b_X12_laysMoves_7 (f_X12_laysMoves_7 n) := rfl
theorem u_X12_laysNow_31 (n : Nat) : f_X12_laysNow_31 (n + 1) = b_X12_laysNow_31 (f_X12_laysNow_31 n) := rfl
theorem u_X12_laysNow_2 (n : Nat) : f_X12_laysNow_2 (n + 1) = b_X12_laysNow_2 (f_X12_laysNow_2 n) := rfl
theorem u_X12_judges_26 (n : Nat) : f_X12_judges_26 (n + 1) = b_X12_judges_26 (f_X12_judges_26 n) := rfl
theorem u_X12_again_31 (q23 : Option Nat → Int32 → Int32 → Mem → Option (Int32 × Mem)) (n : Nat) : f_X12_again_31 q23 (n + 1) = b_X12_again_31 q23 (f_X12_again_31 q23 n) := rfl
theorem u_X12_again_23 (n : Nat) : f_X12_again_23 (n + 1) = b_X12_again_23 (f_X12_again_23 n) := rfl
theorem u_X12_copies_2 (n : Nat) : f_X12_copies_2 (n + 1) = b_X12_copies_2 (f_X12_copies_2 n) := rfl
theorem u_X12_cellOf_30 (n : Nat) : f_X12_cellOf_30 (n + 1) = b_X12_cellOf_30 (f_X12_cellOf_30 n) := rfl
theorem u_X12_bits_4 (n : Nat) : f_X12_bits_4 (n + 1) = b_X12_bits_4 (f_X12_bits_4 n) := rfl
theorem u_X12_laysState_44 (n : Nat) : f_X12_laysState_44 (n + 1) = b_X12_laysState_44 (f_X12_laysState_44 n) := rfl
theorem u_X12_laysState_6 (n : Nat) : f_X12_laysState_6 (n + 1) = b_X12_laysState_6 (f_X12_laysState_6 n) := rfl
theorem u_X12_laysStates_106 (q59 : Option Nat → Int32 → Mem → Option (Int32 × Mem)) (n : Nat) : f_X12_laysStates_106 q59 (n + 1) = b_X12_laysStates_106 q59 (f_X12_laysStates_106 q59 n) := rfl
theorem u_X12_laysStates_59 (n : Nat) : f_X12_laysStates_59 (n + 1) = b_X12_laysStates_59 (f_X12_laysStates_59 n) := rfl
theorem u_X12_laysStates_2 (n : Nat) : f_X12_laysStates_2 (n + 1) = b_X12_laysStates_2 (f_X12_laysStates_2 n) := rfl
theorem u_X12_settles_16 (n : Nat) : f_X12_settles_16 (n + 1) = b_X12_settles_16 (f_X12_settles_16 n) := rfl
theorem u_X12_laysResults_139 (q83 : Option Nat → Int32 → Int32 → Mem → Option (Int32 × Mem)) (n : Nat) : f_X12_laysResults_139 q83 (n + 1) = b_X12_laysResults_139 q83 (f_X12_laysResults_139 q83 n) := rfl
theorem u_X12_laysResults_91 (q83 : Option Nat → Int32 → Int32 → Mem → Option (Int32 × Mem)) (n : Nat) : f_X12_laysResults_91 q83 (n + 1) = b_X12_laysResults_91 q83 (f_X12_laysResults_91 q83 n) := rfl
theorem u_X12_laysResults_83 (n : Nat) : f_X12_laysResults_83 (n + 1) = b_X12_laysResults_83 (f_X12_laysResults_83 n) := rfl
theorem u_X12_laysResults_11 (n : Nat) : f_X12_laysResults_11 (n + 1) = b_X12_laysResults_11 (f_X12_laysResults_11 n) := rfl
theorem u_X12_balanced_24 (n : Nat) : f_X12_balanced_24 (n + 1) = b_X12_balanced_24 (f_X12_balanced_24 n) := rfl
theorem u_X12_offerAt_9 (n : Nat) : f_X12_offerAt_9 (n + 1) = b_X12_offerAt_9 (f_X12_offerAt_9 n) := rfl
theorem u_X12_drawn_66 (q49 : Option Nat → Int32 → Int32 → Int32 → Int32 → Mem → Option (Int32 × Mem)) (n : Nat) : f_X12_drawn_66 q49 (n + 1) = b_X12_drawn_66 q49 (f_X12_drawn_66 q49 n) := rfl
theorem u_X12_drawn_49 (n : Nat) : f_X12_drawn_49 (n + 1) = b_X12_drawn_49 (f_X12_drawn_49 n) := rfl
theorem u_X12_put_3 (n : Nat) : f_X12_put_3 (n + 1) = b_X12_put_3 (f_X12_put_3 n) := rfl
theorem u_X12_good_21 (n : Nat) : f_X12_good_21 (n + 1) = b_X12_good_21 (f_X12_good_21 n) := rfl
theorem u_X12_losesOn_78 (n : Nat) : f_X12_losesOn_78 (n + 1) = b_X12_losesOn_78 (f_X12_losesOn_78 n) := rfl
theorem u_X12_losesOn_9 (n : Nat) : f_X12_losesOn_9 (n + 1) = b_X12_losesOn_9 (f_X12_losesOn_9 n) := rfl
theorem u_X12_winsOn_83 (n : Nat) : f_X12_winsOn_83 (n + 1) = b_X12_winsOn_83 (f_X12_winsOn_83 n) := rfl
theorem u_X12_winsOn_7 (n : Nat) : f_X12_winsOn_7 (n + 1) = b_X12_winsOn_7 (f_X12_winsOn_7 n) := rfl
theorem u_X12_line_30 (n : Nat) : f_X12_line_30 (n + 1) = b_X12_line_30 (f_X12_line_30 n) := rfl
theorem u_X12_greatest_5 (n : Nat) : f_X12_greatest_5 (n + 1) = b_X12_greatest_5 (f_X12_greatest_5 n) := rfl
theorem u_X12_laysWorth_2 (n : Nat) : f_X12_laysWorth_2 (n + 1) = b_X12_laysWorth_2 (f_X12_laysWorth_2 n) := rfl
theorem u_X12_isNever_5 (n : Nat) : f_X12_isNever_5 (n + 1) = b_X12_isNever_5 (f_X12_isNever_5 n) := rfl
theorem u_X12_offerBy_75 (n : Nat) : f_X12_offerBy_75 (n + 1) = b_X12_offerBy_75 (f_X12_offerBy_75 n) := rfl
theorem u_X12_offerBy_4 (n : Nat) : f_X12_offerBy_4 (n + 1) = b_X12_offerBy_4 (f_X12_offerBy_4 n) := rfl
theorem u_X12_goesFor_6 (n : Nat) : f_X12_goesFor_6 (n + 1) = b_X12_goesFor_6 (f_X12_goesFor_6 n) := rfl
theorem u_X12_keepsNow_31 (n : Nat) : f_X12_keepsNow_31 (n + 1) = b_X12_keepsNow_31 (f_X12_keepsNow_31 n) := rfl
theorem u_X12_keepsNow_2 (n : Nat) : f_X12_keepsNow_2 (n + 1) = b_X12_keepsNow_2 (f_X12_keepsNow_2 n) := rfl
theorem u_X12_goesOnFrom_2 (n : Nat) : f_X12_goesOnFrom_2 (n + 1) = b_X12_goesOnFrom_2 (f_X12_goesOnFrom_2 n) := rfl
theorem u_X12_runs_53 (q40 : Option Nat → Int32 → Int32 → Mem → Option (Int32 × Mem)) (n : Nat) : f_X12_runs_53 q40 (n + 1) = b_X12_runs_53 q40 (f_X12_runs_53 q40 n) := rfl
theorem u_X12_runs_40 (n : Nat) : f_X12_runs_40 (n + 1) = b_X12_runs_40 (f_X12_runs_40 n) := rfl
theorem u_X12_runs_12 (n : Nat) : f_X12_runs_12 (n + 1) = b_X12_runs_12 (f_X12_runs_12 n) := rfl
theorem u_X12_next_232 (n : Nat) : f_X12_next_232 (n + 1) = b_X12_next_232 (f_X12_next_232 n) := rfl
theorem u_X12_next_99 (n : Nat) : f_X12_next_99 (n + 1) = b_X12_next_99 (f_X12_next_99 n) := rfl
theorem u_X12_next_0 (n : Nat) : f_X12_next_0 (n + 1) = b_X12_next_0 (f_X12_next_0 n) := rfl
theorem u_X12_works_0 (n : Nat) : f_X12_works_0 (n + 1) = b_X12_works_0 (f_X12_works_0 n) := rfl
theorem u_X12_oneIsOver_0 (n : Nat) : f_X12_oneIsOver_0 (n + 1) = b_X12_oneIsOver_0 (f_X12_oneIsOver_0 n) := rfl
theorem u_X12_wasTold_4 (n : Nat) : f_X12_wasTold_4 (n + 1) = b_X12_wasTold_4 (f_X12_wasTold_4 n) := rfl
theorem u_X12_askIsOver_0 (n : Nat) : f_X12_askIsOver_0 (n + 1) = b_X12_askIsOver_0 (f_X12_askIsOver_0 n) := rfl
theorem u_X12_keepsText_154 (n : Nat) : f_X12_keepsText_154 (n + 1) = b_X12_keepsText_154 (f_X12_keepsText_154 n) := rfl
theorem u_X12_keepsText_12 (n : Nat) : f_X12_keepsText_12 (n + 1) = b_X12_keepsText_12 (f_X12_keepsText_12 n) := rfl
theorem u_X12_text_75 (n : Nat) : f_X12_text_75 (n + 1) = b_X12_text_75 (f_X12_text_75 n) := rfl
theorem u_L_law_38 (n : Nat) : f_L_law_38 (n + 1) = b_L_law_38 (f_L_law_38 n) := rfl
