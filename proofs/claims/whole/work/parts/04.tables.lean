def cnm : Nat → String
  | 0 => RX0
  | 1 => RX1
  | 2 => RX2
  | 3 => RX3
  | 4 => RX4
  | 5 => RX5
  | 6 => RX6
  | 7 => RX7
  | 8 => RX8
  | 9 => RX9
  | 10 => RX10
  | 11 => RX11
  | 12 => RX12
  | 13 => "FortyDesksLaw"
  | _ => ""
def fT : Nat → u_T
  | 0 => TX0
  | 1 => TX1
  | 2 => TX2
  | 3 => TX3
  | 4 => TX4
  | 5 => TX5
  | 6 => TX6
  | 7 => TX7
  | 8 => TX8
  | 9 => TX9
  | 10 => TX10
  | 11 => TX11
  | _ => TX12
def fN : Nat → Nat
  | 0 => 5
  | 1 => 8
  | 2 => 6
  | 3 => 10
  | 4 => 3
  | 5 => 10
  | 6 => 8
  | 7 => 4
  | 8 => 7
  | 9 => 7
  | 10 => 4
  | 11 => 11
  | 12 => 56
  | _ => 0
def fTy : Nat → Nat → FieldType
  | 0 => tyX0
  | 1 => tyX1
  | 2 => tyX2
  | 3 => tyX3
  | 4 => tyX4
  | 5 => tyX5
  | 6 => tyX6
  | 7 => tyX7
  | 8 => tyX8
  | 9 => tyX9
  | 10 => tyX10
  | 11 => tyX11
  | _ => tyX12
abbrev mInf : Type := MethodName × ByteArray × Nat × Option FieldType × Nat × Nat × Nat × Bool
def mT : List mInf := [
  (yX0_init, cX0_init, 1, none, 0, 0, 1, false),
  (yX0_has, cX0_has, 2, some .boolean, 0, 2, 0, false),
  (yX0_add, cX0_add, 2, some .int, 0, 1, 0, false),
  (yX0_isUnder, cX0_isUnder, 4, some .boolean, 0, 2, 0, false),
  (yX0_begin, cX0_begin, 4, some .int, 0, 1, 0, false),
  (yX0_ranAt, cX0_ranAt, 2, some .int, 0, 1, 0, false),
  (yX0_perform, cX0_perform, 7, some .int, 0, 1, 0, false),
  (yX0_run, cX0_run, 5, some .int, 0, 1, 0, false),
  (yX0_own, cX0_own, 4, some .int, 0, 1, 0, false),
  (yX1_init, cX1_init, 3, none, 1, 0, 2, false),
  (yX1_isAllowed, cX1_isAllowed, 4, some .boolean, 1, 2, 0, false),
  (yX1_make, cX1_make, 5, some .int, 1, 1, 0, false),
  (yX1_dropOldest, cX1_dropOldest, 2, none, 1, 0, 0, false),
  (yX1_apply, cX1_apply, 4, none, 1, 0, 0, false),
  (yX1_stepBack, cX1_stepBack, 1, some .boolean, 1, 2, 0, false),
  (yX1_stepOn, cX1_stepOn, 1, some .boolean, 1, 2, 0, false),
  (yX2_init, cX2_init, 3, none, 2, 0, 3, false),
  (yX2_changeBooths, cX2_changeBooths, 3, some .int, 2, 1, 0, false),
  (yX2_breakAll, cX2_breakAll, 8, some .int, 2, 1, 0, false),
  (yX2_speakOpenly, cX2_speakOpenly, 5, some .int, 2, 1, 0, false),
  (yX3_init, cX3_init, 1, none, 3, 0, 4, false),
  (yX3_hasDesk, cX3_hasDesk, 2, some .boolean, 3, 2, 0, false),
  (yX3_hasScreen, cX3_hasScreen, 2, some .boolean, 3, 2, 0, false),
  (yX3_isFree, cX3_isFree, 4, some .boolean, 3, 2, 0, false),
  (yX3_addDesk, cX3_addDesk, 3, some .int, 3, 1, 0, false),
  (yX3_addScreen, cX3_addScreen, 4, some .int, 3, 1, 0, false),
  (yX3_changeHeight, cX3_changeHeight, 3, none, 3, 0, 0, false),
  (yX3_far, cX3_far, 3, some .int, 3, 1, 0, false),
  (yX3_between, cX3_between, 9, some .int, 3, 1, 0, false),
  (yX4_init, cX4_init, 3, none, 4, 0, 5, false),
  (yX4_spread, cX4_spread, 5, none, 4, 0, 0, false),
  (yX4_infectAround, cX4_infectAround, 6, none, 4, 0, 0, false),
  (yX4_fallen, cX4_fallen, 3, some .int, 4, 1, 0, false),
  (yX4_lastStart, cX4_lastStart, 3, some .int, 4, 1, 0, false),
  (yX5_init, cX5_init, 1, none, 5, 0, 6, false),
  (yX5_addByte, cX5_addByte, 2, some .int, 5, 1, 0, false),
  (yX5_takeTape, cX5_takeTape, 3, some .int, 5, 1, 0, false),
  (yX5_next, cX5_next, 1, some .int, 5, 1, 0, false),
  (yX5_write, cX5_write, 2, none, 5, 0, 0, false),
  (yX5_readText, cX5_readText, 2, some .boolean, 5, 2, 0, false),
  (yX5_readLine, cX5_readLine, 2, some .boolean, 5, 2, 0, false),
  (yX5_readPart, cX5_readPart, 5, some .boolean, 5, 2, 0, false),
  (yX5_rankOf, cX5_rankOf, 1, some .int, 5, 1, 0, false),
  (yX5_readOperand, cX5_readOperand, 4, some .boolean, 5, 2, 0, false),
  (yX5_readNumber, cX5_readNumber, 3, some .boolean, 5, 2, 0, false),
  (yX5_isDigit, cX5_isDigit, 1, some .boolean, 5, 2, 0, false),
  (yX5_nameOf, cX5_nameOf, 1, some .int, 5, 1, 0, false),
  (yX5_value, cX5_value, 9, some .int, 5, 1, 0, false),
  (yX5_join, cX5_join, 3, some .int, 5, 1, 0, false),
  (yX6_init, cX6_init, 4, none, 6, 0, 7, false),
  (yX6_findBest, cX6_findBest, 1, some .int, 6, 1, 0, false),
  (yX6_tryFrom, cX6_tryFrom, 6, none, 6, 0, 0, false),
  (yX6_isTakenAhead, cX6_isTakenAhead, 4, some .boolean, 6, 2, 0, false),
  (yX6_exchange, cX6_exchange, 2, some .int, 6, 1, 0, false),
  (yX6_exchangeOnce, cX6_exchangeOnce, 7, some .boolean, 6, 2, 0, false),
  (yX6_swapTwo, cX6_swapTwo, 4, none, 6, 0, 0, false),
  (yX6_comeUntilSettled, cX6_comeUntilSettled, 2, some .int, 6, 1, 0, false),
  (yX6_comeOnce, cX6_comeOnce, 3, some .boolean, 6, 2, 0, false),
  (yX6_bestFreeDesk, cX6_bestFreeDesk, 7, some .int, 6, 1, 0, false),
  (yX7_init, cX7_init, 1, none, 7, 0, 8, false),
  (yX7_isEmpty, cX7_isEmpty, 1, some .boolean, 7, 2, 0, false),
  (yX7_isRow, cX7_isRow, 1, some .boolean, 7, 2, 0, false),
  (yX7_hasPlace, cX7_hasPlace, 3, some .boolean, 7, 2, 0, true),
  (yX7_hasRange, cX7_hasRange, 3, some .boolean, 7, 2, 0, false),
  (yX7_clear, cX7_clear, 1, none, 7, 0, 0, false),
  (yX7_holdBody, cX7_holdBody, 2, none, 7, 0, 0, false),
  (yX7_holdRow, cX7_holdRow, 4, none, 7, 0, 0, false),
  (yX7_store, cX7_store, 4, none, 7, 0, 0, true),
  (yX7_cut, cX7_cut, 3, some .long, 7, 3, 0, true),
  (yX8_init, cX8_init, 4, none, 8, 0, 9, false),
  (yX8_changeMask, cX8_changeMask, 3, some .int, 8, 1, 0, false),
  (yX8_changeCeiling, cX8_changeCeiling, 3, some .int, 8, 1, 0, false),
  (yX8_strength, cX8_strength, 9, some .int, 8, 1, 0, false),
  (yX8_worth, cX8_worth, 6, some .int, 8, 1, 0, false),
  (yX8_netOf, cX8_netOf, 5, some .int, 8, 1, 0, false),
  (yX8_clearBits, cX8_clearBits, 4, some .int, 8, 1, 0, false),
  (yX8_loudOf, cX8_loudOf, 5, some .int, 8, 1, 0, false),
  (yX8_loudestBeyond, cX8_loudestBeyond, 7, some .int, 8, 1, 0, false),
  (yX8_netWithHigher, cX8_netWithHigher, 4, some .int, 8, 1, 0, false),
  (yX9_init, cX9_init, 1, none, 9, 0, 10, false),
  (yX9_has, cX9_has, 2, some .boolean, 9, 2, 0, false),
  (yX9_join, cX9_join, 7, some .int, 9, 1, 0, false),
  (yX9_sitterAt, cX9_sitterAt, 3, some .int, 9, 1, 0, false),
  (yX9_isNeeded, cX9_isNeeded, 3, some .boolean, 9, 2, 0, false),
  (yX9_tell, cX9_tell, 3, some .int, 9, 1, 0, false),
  (yX9_discomfort, cX9_discomfort, 7, some .int, 9, 1, 0, false),
  (yX9_bestHeat, cX9_bestHeat, 4, some .int, 9, 1, 0, false),
  (yX10_init, cX10_init, 3, none, 10, 0, 11, false),
  (yX10_settle, cX10_settle, 4, some .int, 10, 1, 0, false),
  (yX10_raiseAll, cX10_raiseAll, 5, some .boolean, 10, 2, 0, false),
  (yX10_raised, cX10_raised, 4, some .int, 10, 1, 0, false),
  (yX10_bestHushed, cX10_bestHushed, 6, some .int, 10, 1, 0, false),
  (yX11_init, cX11_init, 2, none, 11, 0, 12, false),
  (yX11_room, cX11_room, 5, some .int, 11, 1, 0, false),
  (yX11_desk, cX11_desk, 2, some .int, 11, 1, 0, false),
  (yX11_desks, cX11_desks, 10, some .int, 11, 1, 0, true),
  (yX11_screen, cX11_screen, 3, some .int, 11, 1, 0, false),
  (yX11_worker, cX11_worker, 4, some .int, 11, 1, 0, false),
  (yX11_sit, cX11_sit, 5, some .int, 11, 1, 0, false),
  (yX11_set, cX11_set, 3, some .int, 11, 1, 0, false),
  (yX11_mend, cX11_mend, 4, some .int, 11, 1, 0, false),
  (yX11_of, cX11_of, 3, some .int, 11, 1, 0, false),
  (yX11_feed, cX11_feed, 2, some .int, 11, 1, 0, false),
  (yX11_law, cX11_law, 1, some .int, 11, 1, 0, false),
  (yX11_way, cX11_way, 5, some .int, 11, 1, 0, false),
  (yX11_level, cX11_level, 6, some .int, 11, 1, 0, false),
  (yX11_hears, cX11_hears, 4, some .int, 11, 1, 0, false),
  (yX11_net, cX11_net, 1, some .int, 11, 1, 0, false),
  (yX11_quiet, cX11_quiet, 3, some .int, 11, 1, 0, false),
  (yX11_higher, cX11_higher, 6, some .int, 11, 1, 0, false),
  (yX11_rest, cX11_rest, 4, some .int, 11, 1, 0, false),
  (yX11_hush, cX11_hush, 1, some .int, 11, 1, 0, false),
  (yX11_seats, cX11_seats, 3, some .int, 11, 1, 0, false),
  (yX11_swaps, cX11_swaps, 3, some .int, 11, 1, 0, false),
  (yX11_broken, cX11_broken, 5, some .int, 11, 1, 0, false),
  (yX11_booths, cX11_booths, 5, some .int, 11, 1, 0, false),
  (yX11_mornings, cX11_mornings, 3, some .int, 11, 1, 0, false),
  (yX11_heat, cX11_heat, 4, some .int, 11, 1, 0, false),
  (yX11_ill, cX11_ill, 6, some .int, 11, 1, 0, false),
  (yX11_undo, cX11_undo, 1, some .int, 11, 1, 0, false),
  (yX11_redo, cX11_redo, 1, some .int, 11, 1, 0, false),
  (yX11_body, cX11_body, 2, some .int, 11, 1, 0, false),
  (yX11_act, cX11_act, 4, some .int, 11, 1, 0, false),
  (yX11_trace, cX11_trace, 2, some .int, 11, 1, 0, false),
  (yX11_keep, cX11_keep, 3, some .int, 11, 1, 0, false),
  (yX11_row, cX11_row, 4, some .int, 11, 1, 0, false),
  (yX11_put, cX11_put, 6, some .int, 11, 1, 0, true),
  (yX11_element, cX11_element, 3, some .long, 11, 3, 0, false),
  (yX11_shift, cX11_shift, 8, some .int, 11, 1, 0, false),
  (yX11_taken, cX11_taken, 5, some .int, 11, 1, 0, false),
  (yX11_count, cX11_count, 2, some .int, 11, 1, 0, false),
  (yX11_hasShelf, cX11_hasShelf, 2, some .boolean, 11, 2, 0, false),
  (yX11_refusalAt, cX11_refusalAt, 4, some .int, 11, 1, 0, false),
  (yX11_isWithin, cX11_isWithin, 3, some .boolean, 11, 2, 0, false),
  (yX12_init, cX12_init, 1, none, 12, 0, 13, false),
  (yX12_in, cX12_in, 3, some .boolean, 12, 2, 0, false),
  (yX12_sizeOf, cX12_sizeOf, 1, some .int, 12, 1, 0, false),
  (yX12_held, cX12_held, 3, some .int, 12, 1, 0, false),
  (yX12_isDesk, cX12_isDesk, 2, some .boolean, 12, 2, 0, false),
  (yX12_isWorker, cX12_isWorker, 2, some .boolean, 12, 2, 0, false),
  (yX12_room, cX12_room, 3, some .int, 12, 1, 0, false),
  (yX12_isFree, cX12_isFree, 4, some .boolean, 12, 2, 0, false),
  (yX12_addDesk, cX12_addDesk, 3, some .int, 12, 1, 0, false),
  (yX12_desk, cX12_desk, 2, some .int, 12, 1, 0, false),
  (yX12_desks, cX12_desks, 8, some .int, 12, 1, 0, true),
  (yX12_screen, cX12_screen, 3, some .int, 12, 1, 0, false),
  (yX12_sitterAt, cX12_sitterAt, 3, some .int, 12, 1, 0, false),
  (yX12_worker, cX12_worker, 4, some .int, 12, 1, 0, false),
  (yX12_sit, cX12_sit, 4, some .int, 12, 1, 0, false),
  (yX12_set, cX12_set, 4, some .int, 12, 1, 0, false),
  (yX12_valueAt, cX12_valueAt, 3, some .int, 12, 1, 0, false),
  (yX12_lays, cX12_lays, 4, none, 12, 0, 0, false),
  (yX12_changes, cX12_changes, 6, some .int, 12, 1, 0, false),
  (yX12_undo, cX12_undo, 1, some .int, 12, 1, 0, false),
  (yX12_redo, cX12_redo, 1, some .int, 12, 1, 0, false),
  (yX12_mend, cX12_mend, 4, some .int, 12, 1, 0, false),
  (yX12_of, cX12_of, 3, some .int, 12, 1, 0, false),
  (yX12_feed, cX12_feed, 2, some .int, 12, 1, 0, false),
  (yX12_look, cX12_look, 1, some .int, 12, 1, 0, false),
  (yX12_faulty, cX12_faulty, 1, none, 12, 0, 0, false),
  (yX12_addStep, cX12_addStep, 3, none, 12, 0, 0, false),
  (yX12_nameOf, cX12_nameOf, 1, some .int, 12, 1, 0, false),
  (yX12_opens, cX12_opens, 1, some .boolean, 12, 2, 0, false),
  (yX12_figure, cX12_figure, 3, none, 12, 0, 0, false),
  (yX12_operand, cX12_operand, 2, none, 12, 0, 0, false),
  (yX12_product, cX12_product, 2, none, 12, 0, 0, false),
  (yX12_sum, cX12_sum, 2, none, 12, 0, 0, false),
  (yX12_compared, cX12_compared, 2, none, 12, 0, 0, false),
  (yX12_both, cX12_both, 1, none, 12, 0, 0, false),
  (yX12_either, cX12_either, 1, none, 12, 0, 0, false),
  (yX12_line, cX12_line, 2, none, 12, 0, 0, false),
  (yX12_readText, cX12_readText, 3, some .int, 12, 1, 0, false),
  (yX12_twoOf, cX12_twoOf, 3, some .int, 12, 1, 0, false),
  (yX12_worked, cX12_worked, 7, some .int, 12, 1, 0, false),
  (yX12_gives, cX12_gives, 4, some .int, 12, 1, 0, false),
  (yX12_law, cX12_law, 2, some .int, 12, 1, 0, false),
  (yX12_farOf, cX12_farOf, 3, some .int, 12, 1, 0, false),
  (yX12_isBetween, cX12_isBetween, 3, some .boolean, 12, 2, 0, false),
  (yX12_between, cX12_between, 5, some .int, 12, 1, 0, false),
  (yX12_way, cX12_way, 3, some .int, 12, 1, 0, false),
  (yX12_levelOf, cX12_levelOf, 6, some .int, 12, 1, 0, false),
  (yX12_loudOf, cX12_loudOf, 5, some .int, 12, 1, 0, false),
  (yX12_level, cX12_level, 2, some .int, 12, 1, 0, false),
  (yX12_doesNeed, cX12_doesNeed, 3, some .boolean, 12, 2, 0, false),
  (yX12_harmOf, cX12_harmOf, 4, some .int, 12, 1, 0, false),
  (yX12_gainOf, cX12_gainOf, 4, some .int, 12, 1, 0, false),
  (yX12_clearTo, cX12_clearTo, 4, some .int, 12, 1, 0, false),
  (yX12_hears, cX12_hears, 3, some .int, 12, 1, 0, false),
  (yX12_netNow, cX12_netNow, 3, some .int, 12, 1, 0, false),
  (yX12_net, cX12_net, 1, some .int, 12, 1, 0, false),
  (yX12_isQuiet, cX12_isQuiet, 4, some .boolean, 12, 2, 0, false),
  (yX12_quiet, cX12_quiet, 5, some .int, 12, 1, 0, false),
  (yX12_higher, cX12_higher, 7, some .int, 12, 1, 0, false),
  (yX12_restFrom, cX12_restFrom, 8, some .int, 12, 1, 0, false),
  (yX12_rest, cX12_rest, 4, some .int, 12, 1, 0, false),
  (yX12_hush, cX12_hush, 6, some .int, 12, 1, 0, false),
  (yX12_keepSeats, cX12_keepSeats, 2, none, 12, 0, 0, false),
  (yX12_layBack, cX12_layBack, 2, none, 12, 0, 0, false),
  (yX12_areSeats, cX12_areSeats, 5, some .boolean, 12, 2, 0, false),
  (yX12_seats, cX12_seats, 8, some .int, 12, 1, 0, false),
  (yX12_exchange, cX12_exchange, 4, none, 12, 0, 0, false),
  (yX12_swaps, cX12_swaps, 11, some .int, 12, 1, 0, false),
  (yX12_day, cX12_day, 10, some .int, 12, 1, 0, false),
  (yX12_broken, cX12_broken, 5, some .int, 12, 1, 0, false),
  (yX12_booths, cX12_booths, 5, some .int, 12, 1, 0, false),
  (yX12_bestFor, cX12_bestFor, 7, some .int, 12, 1, 0, false),
  (yX12_mornings, cX12_mornings, 6, some .int, 12, 1, 0, false),
  (yX12_heat, cX12_heat, 9, some .int, 12, 1, 0, false),
  (yX12_ill, cX12_ill, 11, some .int, 12, 1, 0, false),
  (yX12_isBody, cX12_isBody, 2, some .boolean, 12, 2, 0, false),
  (yX12_ran, cX12_ran, 2, none, 12, 0, 0, false),
  (yX12_trace, cX12_trace, 2, some .int, 12, 1, 0, false),
  (yX12_body, cX12_body, 2, some .int, 12, 1, 0, false),
  (yX12_isUnder, cX12_isUnder, 2, some .boolean, 12, 2, 0, false),
  (yX12_plainSpeaks, cX12_plainSpeaks, 3, some .int, 12, 1, 0, false),
  (yX12_wantedSpeaks, cX12_wantedSpeaks, 3, some .int, 12, 1, 0, false),
  (yX12_speaking, cX12_speaking, 3, some .int, 12, 1, 0, false),
  (yX12_plainHears, cX12_plainHears, 3, some .int, 12, 1, 0, false),
  (yX12_maskedHears, cX12_maskedHears, 3, some .int, 12, 1, 0, false),
  (yX12_hearing, cX12_hearing, 4, some .int, 12, 1, 0, false),
  (yX12_plainMinds, cX12_plainMinds, 3, some .int, 12, 1, 0, false),
  (yX12_minding, cX12_minding, 4, some .int, 12, 1, 0, false),
  (yX12_plainMoves, cX12_plainMoves, 4, some .int, 12, 1, 0, false),
  (yX12_raisedMoves, cX12_raisedMoves, 3, some .int, 12, 1, 0, false),
  (yX12_moving, cX12_moving, 3, some .int, 12, 1, 0, false),
  (yX12_act, cX12_act, 4, some .int, 12, 1, 0, false),
  (yX12_count, cX12_count, 2, some .int, 12, 1, 0, false),
  (yX12_isShelf, cX12_isShelf, 1, some .boolean, 12, 2, 0, false),
  (yX12_keep, cX12_keep, 3, some .int, 12, 1, 0, false),
  (yX12_row, cX12_row, 5, some .int, 12, 1, 0, false),
  (yX12_whyNoPlace, cX12_whyNoPlace, 3, some .int, 12, 1, 0, false),
  (yX12_put, cX12_put, 7, some .int, 12, 1, 0, true),
  (yX12_element, cX12_element, 3, some .long, 12, 3, 0, false),
  (yX12_shift, cX12_shift, 7, some .int, 12, 1, 0, false),
  (yX12_taken, cX12_taken, 3, some .int, 12, 1, 0, false),
  (x, code, 4, some .boolean, 13, 2, 0, false)]
def mI (y : Nat) : mInf := mT.getD y (⟨"", "", ""⟩, ⟨#[]⟩, 0, none, 99, 9, 0, false)
def mnm (y : Nat) : MethodName := (mI y).1
def mb (y : Nat) : ByteArray := (mI y).2.1
def mnl (y : Nat) : Nat := (mI y).2.2.1
def mret (y : Nat) : Option FieldType := (mI y).2.2.2.1
def mcl (y : Nat) : Nat := (mI y).2.2.2.2.1
def mrt (y : Nat) : Nat := (mI y).2.2.2.2.2.1
def mini (y : Nat) : Nat := (mI y).2.2.2.2.2.2.1
def mlg (y : Nat) : Bool := (mI y).2.2.2.2.2.2.2
def lkC : Nat → List (Nat × mAux × Nat)
  | 0 => [(3, (16, 0, 0, 0), 405), (11, (3, 0, 0, 1), 406), (15, (3, 0, 2, 1), 410), (18, (1, 0, 1, 0), 408), (22, (50, 2, 0, 0), 931), (25, (1, 0, 3, 0), 411), (28, (10, 1, 1, 0), 920), (32, (11, 133, 3, 1), 924), (36, (1, 0, 4, 0), 413), (39, (10, 6, 4, 0), 925), (43, (50, 1, 0, 0), 929), (46, (10, 7, 4, 0), 933), (49, (10, 8, 3, 0), 937)]
  | 1 => [(3, (16, 0, 0, 0), 372), (11, (3, 1, 2, 1), 375), (15, (3, 1, 3, 1), 376), (18, (3, 1, 4, 1), 377), (21, (3, 1, 5, 1), 378), (24, (3, 1, 0, 1), 373), (28, (3, 1, 1, 1), 374), (32, (10, 80, 1, 9), 578), (38, (11, 133, 3, 1), 579), (42, (10, 22, 1, 3), 580), (47, (3, 9, 0, 1), 162), (50, (3, 9, 1, 1), 166), (53, (3, 3, 7, 1), 125), (56, (1, 1, 7, 0), 381), (60, (10, 12, 0, 1), 588), (63, (1, 1, 6, 0), 379), (66, (10, 13, 3, 1), 595), (70, (20, 0, 0, 0), 592), (76, (10, 26, 2, 3), 599)]
  | 2 => [(3, (16, 0, 0, 0), 329), (9, (3, 2, 3, 1), 334), (15, (3, 2, 4, 1), 336), (18, (3, 2, 0, 1), 330), (22, (3, 2, 1, 1), 331), (26, (1, 2, 2, 0), 332), (30, (1, 9, 6, 0), 185), (35, (10, 75, 1, 8), 825), (41, (3, 9, 2, 1), 170), (44, (1, 2, 5, 0), 337), (47, (10, 19, 1, 2), 826), (50, (40, 0, 0, 1103515245), 830), (51, (3, 9, 4, 1), 174)]
  | 3 => [(3, (16, 0, 0, 0), 108), (9, (1, 3, 0, 0), 109), (15, (1, 3, 1, 0), 111), (18, (3, 3, 2, 1), 113), (22, (3, 3, 3, 1), 115), (25, (3, 3, 5, 1), 120), (28, (3, 3, 6, 1), 122), (31, (3, 3, 7, 1), 124), (34, (1, 3, 4, 0), 117), (37, (1, 3, 8, 0), 129), (40, (11, 133, 3, 1), 502), (44, (10, 23, 2, 3), 498), (48, (1, 3, 9, 0), 131), (51, (17, 0, 0, 0), 673), (57, (19, 0, 0, 0), 680), (61, (18, 0, 0, 0), 683)]
  | 4 => [(3, (16, 0, 0, 0), 356), (9, (3, 4, 2, 1), 359), (15, (3, 4, 0, 1), 357), (19, (3, 4, 1, 1), 358), (23, (1, 9, 6, 0), 183), (29, (10, 31, 2, 4), 874), (33, (3, 9, 5, 1), 176), (36, (10, 27, 2, 3), 878), (42, (18, 0, 0, 0), 887)]
  | 5 => [(3, (16, 0, 0, 0), 208), (11, (3, 5, 0, 1), 209), (15, (3, 5, 3, 0), 213), (18, (3, 5, 4, 0), 214), (21, (3, 5, 7, 1), 217), (24, (3, 5, 8, 1), 218), (27, (1, 5, 1, 0), 210), (31, (10, 39, 0, 5), 628), (35, (1, 5, 2, 0), 212), (38, (1, 5, 6, 0), 216), (41, (1, 5, 5, 0), 215), (44, (1, 5, 9, 0), 219), (47, (10, 40, 0, 5), 632), (50, (10, 37, 0, 5), 644), (54, (10, 41, 2, 5), 636), (58, (10, 38, 1, 5), 655), (62, (10, 43, 1, 5), 640), (66, (11, 42, 1, 0), 662), (70, (11, 45, 1, 0), 648), (73, (10, 44, 0, 5), 651), (76, (11, 46, 1, 0), 659), (79, (18, 0, 0, 0), 702), (85, (11, 48, 3, 0), 703)]
  | 6 => [(3, (16, 0, 0, 0), 296), (9, (3, 6, 3, 1), 300), (15, (3, 6, 6, 1), 304), (18, (3, 6, 7, 1), 306), (21, (3, 6, 0, 1), 297), (25, (3, 6, 1, 1), 298), (29, (3, 6, 2, 1), 299), (33, (2, 6, 5, 0), 303), (37, (10, 51, 2, 6), 790), (41, (1, 6, 4, 0), 302), (45, (1, 9, 6, 0), 184), (50, (20, 0, 0, 0), 794), (56, (1, 3, 4, 0), 119), (61, (10, 52, 2, 6), 795), (65, (10, 73, 4, 8), 799), (71, (3, 9, 5, 1), 178), (74, (10, 54, 0, 6), 808), (78, (10, 74, 1, 8), 812), (82, (10, 55, 2, 6), 813), (85, (10, 57, 0, 6), 843), (88, (10, 58, 1, 6), 847)]
  | 7 => [(1, (16, 0, 0, 0), 431), (9, (1, 7, 0, 0), 432), (13, (3, 7, 3, 1), 437), (17, (1, 7, 2, 0), 436), (20, (1, 7, 1, 0), 434), (23, (10, 68, 1, 7), 986)]
  | 8 => [(3, (16, 0, 0, 0), 247), (9, (1, 8, 3, 0), 251), (15, (3, 8, 6, 1), 255), (19, (3, 8, 0, 1), 248), (23, (3, 8, 1, 1), 249), (27, (3, 8, 2, 1), 250), (31, (1, 8, 4, 0), 253), (34, (1, 8, 5, 0), 254), (37, (19, 0, 0, 0), 694), (43, (18, 0, 0, 0), 695), (46, (1, 3, 9, 0), 130), (51, (1, 5, 9, 0), 220), (54, (10, 27, 2, 3), 696), (57, (10, 28, 2, 3), 697), (60, (10, 47, 4, 5), 698), (64, (3, 9, 0, 1), 163), (69, (10, 72, 3, 8), 714), (73, (10, 83, 2, 9), 731), (77, (3, 9, 1, 1), 167), (80, (1, 9, 6, 0), 186), (83, (10, 73, 4, 8), 727), (86, (3, 9, 5, 1), 179), (89, (3, 3, 7, 1), 126), (92, (10, 74, 1, 8), 751), (96, (10, 26, 2, 3), 752)]
  | 9 => [(3, (16, 0, 0, 0), 159), (9, (3, 9, 0, 1), 160), (15, (3, 9, 1, 1), 165), (18, (3, 9, 2, 1), 169), (21, (3, 9, 3, 1), 172), (24, (3, 9, 4, 1), 173), (27, (3, 9, 5, 1), 175), (30, (1, 9, 6, 0), 181), (34, (10, 82, 1, 9), 536), (38, (17, 0, 0, 0), 863), (43, (18, 0, 0, 0), 864), (47, (10, 85, 2, 9), 859)]
  | 10 => [(3, (16, 0, 0, 0), 276), (9, (3, 10, 2, 1), 279), (15, (3, 10, 3, 1), 281), (18, (3, 10, 0, 1), 277), (22, (3, 10, 1, 1), 278), (26, (1, 9, 6, 0), 182), (32, (3, 9, 0, 1), 161), (35, (10, 89, 1, 10), 761), (39, (3, 9, 5, 1), 177), (42, (10, 90, 1, 10), 765), (46, (20, 0, 0, 0), 772), (52, (10, 72, 3, 8), 769), (58, (1, 8, 3, 0), 252), (61, (18, 0, 0, 0), 770), (67, (19, 0, 0, 0), 771), (70, (10, 88, 2, 10), 781)]
  | 11 => [(1, (16, 0, 0, 0), 100), (7, (30, 3, 10, 0), 103), (9, (12, 20, 0, 1), 105), (10, (3, 11, 0, 1), 449), (16, (30, 9, 7, 0), 154), (18, (12, 79, 0, 1), 156), (19, (3, 11, 1, 1), 450), (23, (30, 5, 10, 0), 203), (25, (12, 34, 0, 1), 205), (26, (3, 11, 2, 1), 451), (30, (30, 8, 7, 0), 242), (32, (12, 69, 3, 0), 244), (35, (3, 11, 3, 1), 452), (39, (30, 10, 4, 0), 271), (41, (12, 87, 2, 0), 273), (44, (3, 11, 4, 1), 453), (48, (30, 6, 8, 0), 291), (50, (12, 49, 3, 0), 293), (53, (3, 11, 5, 1), 454), (57, (30, 2, 6, 0), 324), (59, (12, 16, 2, 0), 326), (60, (3, 11, 6, 1), 455), (64, (30, 4, 3, 0), 351), (66, (12, 29, 2, 0), 353), (69, (3, 11, 7, 1), 456), (73, (30, 1, 8, 0), 367), (75, (12, 9, 2, 0), 369), (76, (3, 11, 8, 1), 457), (80, (30, 0, 5, 0), 400), (82, (12, 0, 0, 1), 402), (83, (3, 11, 9, 1), 458), (87, (30, 7, 4, 0), 425), (89, (3, 11, 10, 1), 459), (93, (12, 59, 0, 1), 428), (94, (11, 133, 3, 0), 487), (98, (1, 3, 4, 0), 118), (102, (1, 3, 8, 0), 128), (105, (1, 3, 0, 0), 110), (108, (1, 3, 1, 0), 112), (111, (10, 24, 2, 3), 494), (115, (10, 131, 1, 11), 507), (119, (10, 60, 0, 7), 511), (123, (1, 7, 0, 0), 433), (126, (41, 0, 0, 2), 515), (128, (10, 62, 1, 7), 516), (132, (3, 7, 3, 1), 438), (136, (10, 25, 3, 3), 524), (140, (1, 9, 6, 0), 187), (143, (10, 81, 4, 9), 532), (147, (10, 80, 1, 9), 544), (150, (40, 0, 0, (-2000000000)), 548), (151, (10, 21, 1, 3), 549), (154, (10, 82, 1, 9), 553), (158, (3, 9, 5, 1), 180), (162, (10, 70, 1, 8), 558), (165, (10, 71, 1, 8), 562), (168, (10, 17, 1, 2), 566), (171, (10, 10, 3, 1), 574), (174, (10, 11, 3, 1), 584), (177, (10, 84, 2, 9), 607), (180, (3, 3, 2, 1), 114), (183, (3, 3, 3, 1), 116), (186, (10, 22, 1, 3), 611), (189, (3, 3, 5, 1), 121), (192, (3, 3, 6, 1), 123), (195, (3, 3, 7, 1), 127), (198, (10, 35, 1, 5), 616), (201, (10, 36, 0, 5), 624), (205, (10, 27, 2, 3), 669), (208, (10, 28, 2, 3), 676), (211, (3, 9, 0, 1), 164), (214, (10, 72, 3, 8), 690), (217, (10, 75, 1, 8), 710), (220, (3, 9, 2, 1), 171), (223, (3, 9, 1, 1), 168), (226, (10, 76, 2, 8), 715), (229, (10, 74, 1, 8), 723), (233, (10, 77, 1, 8), 739), (236, (10, 78, 1, 8), 747), (239, (10, 88, 2, 10), 757), (243, (3, 10, 2, 1), 280), (246, (10, 91, 0, 10), 777), (249, (10, 50, 0, 6), 786), (252, (3, 6, 3, 1), 301), (255, (10, 53, 0, 6), 804), (258, (3, 6, 6, 1), 305), (261, (1, 2, 2, 0), 333), (264, (10, 18, 3, 2), 821), (267, (3, 2, 3, 1), 335), (270, (10, 56, 0, 6), 839), (273, (10, 86, 1, 9), 855), (277, (10, 85, 2, 9), 865), (281, (10, 30, 2, 4), 870), (285, (10, 32, 0, 4), 879), (288, (10, 33, 0, 4), 883), (291, (10, 14, 0, 1), 892), (294, (1, 1, 7, 0), 382), (297, (10, 15, 0, 1), 900), (300, (1, 1, 6, 0), 380), (303, (10, 2, 1, 0), 908), (306, (10, 4, 3, 0), 916), (309, (10, 5, 1, 0), 945), (312, (10, 1, 1, 0), 953), (313, (10, 64, 0, 7), 954), (316, (10, 65, 1, 7), 958), (320, (10, 66, 2, 7), 966), (323, (10, 132, 2, 11), 974), (326, (10, 67, 2, 7), 982), (332, (41, 0, 0, (-9223372036854775808)), 994), (334, (10, 61, 0, 7), 978), (337, (10, 63, 2, 7), 999), (341, (20, 0, 0, 0), 1003), (347, (1, 7, 1, 0), 435), (350, (3, 0, 0, 1), 407), (353, (11, 3, 2, 0), 1008), (356, (1, 5, 1, 0), 211), (359, (1, 0, 1, 0), 409), (362, (1, 0, 3, 0), 412)]
  | 12 => [(1, (16, 0, 0, 0), 1020), (7, (1, 12, 1, 0), 1021), (13, (1, 12, 2, 0), 1022), (16, (3, 12, 4, 1), 1024), (20, (3, 12, 5, 1), 1025), (23, (3, 12, 7, 1), 1027), (26, (3, 12, 8, 1), 1028), (29, (3, 12, 9, 1), 1029), (32, (3, 12, 11, 1), 1031), (35, (3, 12, 12, 1), 1032), (38, (3, 12, 13, 1), 1033), (41, (3, 12, 14, 1), 1034), (44, (3, 12, 15, 1), 1035), (47, (3, 12, 16, 1), 1036), (50, (1, 12, 17, 0), 1037), (53, (3, 12, 22, 1), 1042), (56, (3, 12, 23, 1), 1043), (59, (3, 12, 24, 1), 1044), (62, (3, 12, 25, 1), 1045), (65, (3, 12, 26, 1), 1046), (69, (3, 12, 32, 1), 1052), (72, (3, 12, 33, 1), 1053), (75, (3, 12, 34, 1), 1054), (78, (3, 12, 35, 1), 1055), (82, (3, 12, 36, 1), 1056), (85, (3, 12, 37, 1), 1057), (88, (3, 12, 38, 1), 1058), (91, (3, 12, 40, 1), 1060), (94, (3, 12, 41, 1), 1061), (97, (3, 12, 42, 1), 1062), (100, (3, 12, 43, 1), 1063), (103, (3, 12, 44, 1), 1064), (106, (3, 12, 45, 1), 1065), (109, (3, 12, 46, 1), 1066), (112, (3, 12, 47, 1), 1067), (115, (3, 12, 49, 1), 1069), (118, (3, 12, 51, 1), 1071), (121, (3, 12, 52, 1), 1072), (124, (3, 12, 53, 1), 1073), (127, (3, 12, 54, 1), 1074), (131, (3, 12, 55, 1), 1075), (137, (1, 12, 3, 0), 1023), (140, (11, 135, 3, 0), 1195), (144, (1, 12, 10, 0), 1030), (147, (1, 12, 6, 0), 1026), (150, (10, 141, 2, 12), 1202), (154, (10, 142, 2, 12), 1206), (158, (11, 227, 1, 0), 1214), (162, (10, 138, 1, 12), 1225), (165, (10, 146, 1, 12), 1229), (169, (10, 139, 1, 12), 1237), (172, (40, 0, 0, (-2000000000)), 1241), (173, (1, 12, 18, 0), 1038), (176, (1, 12, 19, 0), 1039), (179, (10, 150, 2, 12), 1266), (182, (1, 12, 21, 0), 1041), (185, (1, 12, 20, 0), 1040), (188, (10, 151, 3, 12), 1250), (192, (10, 152, 3, 12), 1262), (196, (1, 12, 27, 0), 1047), (199, (1, 12, 28, 0), 1048), (202, (1, 12, 29, 0), 1049), (205, (1, 12, 31, 0), 1051), (208, (1, 12, 30, 0), 1050), (211, (10, 159, 0, 12), 1329), (214, (10, 158, 0, 12), 1314), (218, (10, 160, 2, 12), 1321), (222, (11, 161, 1, 0), 1318), (225, (10, 162, 0, 12), 1325), (229, (10, 164, 0, 12), 1310), (232, (10, 169, 0, 12), 1290), (235, (10, 163, 0, 12), 1333), (238, (10, 165, 0, 12), 1306), (241, (10, 166, 0, 12), 1302), (244, (10, 167, 0, 12), 1298), (247, (10, 168, 0, 12), 1294), (250, (10, 170, 0, 12), 1286), (253, (11, 172, 3, 0), 1374), (256, (10, 173, 3, 12), 1370), (259, (10, 171, 1, 12), 1282), (262, (2, 12, 39, 0), 1059), (266, (11, 136, 1, 0), 1345), (269, (11, 177, 3, 0), 1352), (272, (10, 176, 2, 12), 1341), (275, (10, 178, 2, 12), 1348), (278, (11, 137, 3, 0), 1363), (281, (10, 174, 1, 12), 1366), (284, (10, 180, 3, 12), 1359), (287, (10, 183, 2, 12), 1393), (290, (10, 181, 3, 12), 1385), (293, (10, 186, 1, 12), 1381), (296, (10, 184, 1, 12), 1389), (299, (10, 185, 1, 12), 1397), (302, (10, 188, 0, 12), 1405), (305, (10, 190, 1, 12), 1413), (308, (10, 193, 2, 12), 1425), (311, (10, 196, 0, 12), 1437), (314, (10, 198, 1, 12), 1441), (317, (10, 197, 0, 12), 1445), (320, (10, 200, 2, 12), 1453), (323, (40, 0, 0, 1103515245), 1465), (324, (10, 202, 3, 12), 1461), (327, (10, 205, 1, 12), 1474), (330, (1, 12, 48, 0), 1068), (333, (1, 12, 50, 0), 1070), (336, (10, 210, 1, 12), 1509), (340, (10, 214, 2, 12), 1513), (343, (11, 213, 2, 0), 1506), (346, (10, 215, 2, 12), 1517), (349, (10, 216, 2, 12), 1502), (352, (10, 217, 2, 12), 1529), (355, (10, 218, 2, 12), 1525), (358, (10, 221, 2, 12), 1533), (361, (10, 220, 2, 12), 1537), (364, (10, 219, 2, 12), 1521), (367, (10, 222, 2, 12), 1549), (370, (10, 223, 2, 12), 1545), (373, (10, 209, 1, 12), 1498), (376, (10, 224, 2, 12), 1541), (379, (10, 230, 2, 12), 1569), (384, (41, 0, 0, (-9223372036854775808)), 1577)]
  | 13 => [(7, (30, 11, 11, 0), 95), (9, (12, 92, 0, 0), 97), (10, (30, 12, 56, 0), 1015), (12, (12, 134, 0, 0), 1017), (13, (10, 93, 1, 11), 483), (17, (10, 140, 1, 12), 1191), (18, (10, 94, 1, 11), 490), (21, (10, 143, 1, 12), 1198), (22, (10, 95, 3, 11), 503), (26, (10, 144, 3, 12), 1210), (27, (10, 96, 2, 11), 520), (31, (10, 145, 2, 12), 1217), (32, (10, 97, 3, 11), 528), (35, (10, 147, 3, 12), 1221), (36, (10, 98, 2, 11), 540), (39, (10, 148, 2, 12), 1233), (40, (10, 99, 2, 11), 554), (43, (10, 149, 2, 12), 1242), (44, (10, 100, 3, 11), 570), (47, (10, 155, 3, 12), 1258), (48, (10, 101, 2, 11), 603), (51, (10, 156, 2, 12), 1270), (52, (10, 102, 1, 11), 612), (55, (10, 157, 1, 12), 1274), (56, (10, 103, 0, 11), 620), (60, (10, 175, 0, 12), 1278), (61, (10, 104, 2, 11), 665), (64, (10, 179, 2, 12), 1337), (65, (10, 105, 1, 11), 686), (68, (10, 182, 1, 12), 1355), (69, (10, 106, 2, 11), 706), (72, (10, 187, 2, 12), 1377), (73, (10, 107, 0, 11), 719), (76, (10, 189, 0, 12), 1401), (77, (10, 108, 1, 11), 735), (80, (10, 191, 1, 12), 1409), (81, (10, 109, 1, 11), 743), (84, (10, 192, 1, 12), 1417), (85, (10, 110, 2, 11), 753), (88, (10, 194, 2, 12), 1421), (89, (10, 111, 0, 11), 773), (92, (10, 195, 0, 12), 1429), (93, (10, 112, 1, 11), 782), (96, (10, 199, 1, 12), 1433), (97, (10, 113, 1, 11), 800), (100, (10, 201, 1, 12), 1449), (101, (10, 114, 3, 11), 817), (104, (10, 203, 3, 12), 1457), (105, (10, 115, 3, 11), 831), (108, (10, 204, 3, 12), 1466), (109, (10, 116, 1, 11), 835), (112, (10, 206, 1, 12), 1470), (113, (10, 117, 1, 11), 851), (116, (10, 207, 1, 12), 1478), (117, (10, 118, 3, 11), 866), (120, (10, 208, 3, 12), 1482), (121, (10, 119, 0, 11), 888), (124, (10, 153, 0, 12), 1246), (125, (10, 120, 0, 11), 896), (128, (10, 154, 0, 12), 1254), (129, (10, 121, 1, 11), 904), (132, (10, 212, 1, 12), 1490), (133, (10, 122, 3, 11), 912), (136, (10, 225, 3, 12), 1494), (137, (10, 123, 1, 11), 941), (140, (10, 211, 1, 12), 1486), (141, (10, 124, 2, 11), 949), (144, (10, 228, 2, 12), 1557), (145, (10, 125, 3, 11), 962), (148, (10, 229, 3, 12), 1561), (149, (41, 0, 0, 4294967295), 1586), (151, (10, 126, 3, 11), 970), (155, (10, 231, 3, 12), 1565), (156, (10, 127, 2, 11), 990), (160, (10, 232, 2, 12), 1573), (161, (10, 128, 5, 11), 995), (165, (10, 233, 5, 12), 1578), (166, (10, 129, 2, 11), 1004), (169, (10, 234, 2, 12), 1582), (170, (10, 130, 1, 11), 1011), (173, (10, 226, 1, 12), 1553)]
  | _ => []
def lk (o idx : Nat) : mAux := (((lkC o).lookup idx).getD ((0, 0, 0, 0), 0)).1
def lkI (o : Nat) : Instr → mAux
  | .ldc i | .ldc_w i | .ldc2_w i | .getfield i | .putfield i | .getstatic i | .new i | .anewarray i | .invokevirtual i | .invokespecial i | .invokestatic i => lk o i
  | _ => (0, 0, 0, 0)
def lkWord (o idx : Nat) (x : mAux) : Cond := match x.1 with
  | 1 | 2 | 3 => .fieldLink (cnm o) idx (fT x.2.1 x.2.2.1).1 (fT x.2.1 x.2.2.1).2.1 (fT x.2.1 x.2.2.1).2.2.1
  | 10 => .methodLink (cnm o) idx (mnm x.2.1)
  | 11 | 12 => if x.2.2.2 = 1 then .methodLinkNest (cnm o) idx (mnm x.2.1) "FortyDesks" else .methodLink (cnm o) idx (mnm x.2.1)
  | 16 => .methodLink (cnm o) idx objectInit
  | 17 => .methodLink (cnm o) idx Lib.Math.abs.name
  | 18 => .methodLink (cnm o) idx Lib.Math.max.name
  | 19 => .methodLink (cnm o) idx Lib.Math.min.name
  | 20 => .methodLink (cnm o) idx arraycopyName
  | 30 => .classLink (cnm o) idx (cnm x.2.1)
  | 40 => .constant (cnm o) idx (oi x.2.2.2)
  | 41 => .constantLong (cnm o) idx (ol x.2.2.2)
  | _ => .fieldLink (cnm o) idx "FortyDesks$Acts" (if x.2.1 = 1 then "OWN" else "ABOVE") "[I"
def lkRef : FieldType → Bool
  | .object _ => true
  | .array _ => true
  | _ => false
def lkSide (x : mAux) : Bool := match x.1 with
  | 1 => decide (x.2.1 < 13) && decide (x.2.2.1 < fN x.2.1) && decide (fTy x.2.1 x.2.2.1 = .int) && decide ((fT x.2.1 x.2.2.1).2.2.2 = decide (x.2.2.2 = 1)) && decide ((fT x.2.1 x.2.2.1).1 = cnm x.2.1)
  | 2 => decide (x.2.1 < 13) && decide (x.2.2.1 < fN x.2.1) && decide (fTy x.2.1 x.2.2.1 = .boolean) && decide ((fT x.2.1 x.2.2.1).2.2.2 = decide (x.2.2.2 = 1)) && decide ((fT x.2.1 x.2.2.1).1 = cnm x.2.1)
  | 3 => decide (x.2.1 < 13) && decide (x.2.2.1 < fN x.2.1) && lkRef (fTy x.2.1 x.2.2.1) && decide ((fT x.2.1 x.2.2.1).2.2.2 = decide (x.2.2.2 = 1)) && decide ((fT x.2.1 x.2.2.1).1 = cnm x.2.1)
  | 10 => decide (x.2.1 < 235) && decide ((parseMethodDescriptor (mnm x.2.1).desc).map (fun d => d.parameters.length) = some x.2.2.1) && decide ((mcl x.2.1 : Int) = x.2.2.2) && decide (mini x.2.1 = 0)
  | 11 => decide (x.2.1 < 235) && decide ((parseMethodDescriptor (mnm x.2.1).desc).map (fun d => d.parameters.length) = some x.2.2.1) && decide (mini x.2.1 = 0)
  | 12 => decide (x.2.1 < 235) && decide ((parseMethodDescriptor (mnm x.2.1).desc).map (fun d => d.parameters.length) = some x.2.2.1) && decide (mini x.2.1 = mcl x.2.1 + 1) && decide (mret x.2.1 = none)
  | 16 | 17 | 18 | 19 | 20 => true
  | 30 => decide (x.2.1 < 13) && decide (x.2.2.1 = fN x.2.1)
  | 40 => decide (-2147483648 ≤ x.2.2.2) && decide (x.2.2.2 < 2147483648)
  | 41 => decide (-9223372036854775808 ≤ x.2.2.2) && decide (x.2.2.2 < 9223372036854775808)
  | 50 => decide (x.2.1 = 1) || decide (x.2.1 = 2)
  | _ => false
def lkOK (o : Nat) : Bool := (lkC o).all fun q => decide (lw_tbl[q.2.2]? = some (lkWord o q.1 q.2.1)) && lkSide q.2.1
