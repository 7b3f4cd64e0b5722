/-! METHODS: their tuples and words -/
def mi_X0_init : MI := (yX0_init, cX0_init, 1, none, 0, 2, 1339)
def mi_X0_forget : MI := (yX0_forget, cX0_forget, 1, none, 0, 0, 0)
def mi_X0_keep : MI := (yX0_keep, cX0_keep, 4, none, 0, 0, 0)
def mi_X0_told : MI := (yX0_told, cX0_told, 1, (some .int), 0, 0, 0)
def mi_X0_tell : MI := (yX0_tell, cX0_tell, 6, (some .int), 0, 0, 0)
def mi_X0_remember : MI := (yX0_remember, cX0_remember, 3, none, 0, 0, 0)
def mi_X0_takeBack : MI := (yX0_takeBack, cX0_takeBack, 3, (some .boolean), 0, 0, 0)
def mi_X1_init : MI := (yX1_init, cX1_init, 2, none, 1, 0, 0)
def mi_X1_start : MI := (yX1_start, cX1_start, 3, none, 1, 0, 0)
def mi_X1_put : MI := (yX1_put, cX1_put, 2, none, 1, 0, 0)
def mi_X1_sum : MI := (yX1_sum, cX1_sum, 4, none, 1, 0, 0)
def mi_X1_product : MI := (yX1_product, cX1_product, 4, none, 1, 0, 0)
def mi_X1_part : MI := (yX1_part, cX1_part, 2, none, 1, 0, 0)
def mi_X1_pair : MI := (yX1_pair, cX1_pair, 3, none, 1, 0, 0)
def mi_X1_opens : MI := (yX1_opens, cX1_opens, 2, (some .boolean), 1, 0, 0)
def mi_X1_isFact : MI := (yX1_isFact, cX1_isFact, 2, (some .boolean), 1, 0, 0)
def mi_X1_test : MI := (yX1_test, cX1_test, 3, none, 1, 0, 0)
def mi_X1_both : MI := (yX1_both, cX1_both, 3, none, 1, 0, 0)
def mi_X1_truth : MI := (yX1_truth, cX1_truth, 3, none, 1, 0, 0)
def mi_X1_comparing : MI := (yX1_comparing, cX1_comparing, 1, (some .int), 1, 0, 0)
def mi_X2_init : MI := (yX2_init, cX2_init, 1, none, 2, 1, 1600)
def mi_X2_put : MI := (yX2_put, cX2_put, 2, none, 2, 0, 0)
def mi_X3_init : MI := (yX3_init, cX3_init, 2, none, 3, 9, 150)
def mi_X3_begin : MI := (yX3_begin, cX3_begin, 3, none, 3, 0, 0)
def mi_X3_copy : MI := (yX3_copy, cX3_copy, 2, none, 3, 0, 0)
def mi_X3_settle : MI := (yX3_settle, cX3_settle, 3, none, 3, 0, 0)
def mi_X3_menOf : MI := (yX3_menOf, cX3_menOf, 4, (some .int), 3, 0, 0)
def mi_X3_isOut : MI := (yX3_isOut, cX3_isOut, 3, (some .boolean), 3, 0, 0)
def mi_X3_borne : MI := (yX3_borne, cX3_borne, 3, (some .int), 3, 0, 0)
def mi_X3_balanceOf : MI := (yX3_balanceOf, cX3_balanceOf, 2, (some .int), 3, 0, 0)
def mi_X3_leadOf : MI := (yX3_leadOf, cX3_leadOf, 3, (some .int), 3, 0, 0)
def mi_X3_goals : MI := (yX3_goals, cX3_goals, 8, (some .int), 3, 0, 0)
def mi_X3_along : MI := (yX3_along, cX3_along, 12, (some .int), 3, 0, 0)
def mi_X3_moveCount : MI := (yX3_moveCount, cX3_moveCount, 3, (some .int), 3, 0, 0)
def mi_X3_isOver : MI := (yX3_isOver, cX3_isOver, 1, (some .boolean), 3, 0, 0)
def mi_X3_moveAt : MI := (yX3_moveAt, cX3_moveAt, 6, (some .int), 3, 0, 0)
def mi_X3_numberOf : MI := (yX3_numberOf, cX3_numberOf, 6, (some .int), 3, 0, 0)
def mi_X3_bitAt : MI := (yX3_bitAt, cX3_bitAt, 4, (some .int), 3, 0, 0)
def mi_X3_set : MI := (yX3_set, cX3_set, 3, none, 3, 0, 0)
def mi_X3_lift : MI := (yX3_lift, cX3_lift, 3, none, 3, 0, 0)
def mi_X3_carry : MI := (yX3_carry, cX3_carry, 4, (some .int), 3, 0, 0)
def mi_X3_carryBack : MI := (yX3_carryBack, cX3_carryBack, 5, none, 3, 0, 0)
def mi_X3_outlook : MI := (yX3_outlook, cX3_outlook, 9, (some .int), 3, 0, 0)
def mi_X3_outlookBehind : MI := (yX3_outlookBehind, cX3_outlookBehind, 7, (some .int), 3, 0, 0)
def mi_X3_dearestPrey : MI := (yX3_dearestPrey, cX3_dearestPrey, 5, (some .int), 3, 0, 0)
def mi_X3_depth : MI := (yX3_depth, cX3_depth, 1, (some .int), 3, 0, 0)
def mi_X3_bestMove : MI := (yX3_bestMove, cX3_bestMove, 8, (some .int), 3, 0, 0)
def mi_X3_threatens : MI := (yX3_threatens, cX3_threatens, 4, (some .boolean), 3, 0, 0)
def mi_X3_forcedBy : MI := (yX3_forcedBy, cX3_forcedBy, 4, (some .int), 3, 0, 0)
def mi_X3_cornersBy : MI := (yX3_cornersBy, cX3_cornersBy, 6, (some .boolean), 3, 0, 0)
def mi_X3_isCornered : MI := (yX3_isCornered, cX3_isCornered, 9, (some .boolean), 3, 0, 0)
def mi_X3_waysTo : MI := (yX3_waysTo, cX3_waysTo, 11, (some .int), 3, 0, 0)
def mi_X3_unlike : MI := (yX3_unlike, cX3_unlike, 4, (some .int), 3, 0, 0)
def mi_X3_passDays : MI := (yX3_passDays, cX3_passDays, 3, none, 3, 0, 0)
def mi_X3_passDay : MI := (yX3_passDay, cX3_passDay, 3, (some .int), 3, 0, 0)
def mi_X3_strike : MI := (yX3_strike, cX3_strike, 4, (some .int), 3, 0, 0)
def mi_X3_harmTo : MI := (yX3_harmTo, cX3_harmTo, 2, (some .int), 3, 0, 0)
def mi_X3_wither : MI := (yX3_wither, cX3_wither, 2, none, 3, 0, 0)
def mi_X3_turn : MI := (yX3_turn, cX3_turn, 2, none, 3, 0, 0)
def mi_X3_answerOf : MI := (yX3_answerOf, cX3_answerOf, 8, (some .int), 3, 0, 0)
def mi_X4_init : MI := (yX4_init, cX4_init, 1, none, 4, 13, 1679)
def mi_X4_empty : MI := (yX4_empty, cX4_empty, 1, none, 4, 0, 0)
def mi_X4_isPlace : MI := (yX4_isPlace, cX4_isPlace, 3, (some .boolean), 4, 0, 0)
def mi_X4_isHeld : MI := (yX4_isHeld, cX4_isHeld, 3, (some .boolean), 4, 0, 0)
def mi_X4_slotOf : MI := (yX4_slotOf, cX4_slotOf, 4, (some .int), 4, 0, 0)
def mi_X4_worthOf : MI := (yX4_worthOf, cX4_worthOf, 2, (some .int), 4, 0, 0)
def mi_X4_isCrown : MI := (yX4_isCrown, cX4_isCrown, 2, (some .boolean), 4, 0, 0)
def mi_X5_init : MI := (yX5_init, cX5_init, 2, none, 5, 0, 0)
def mi_X5_open : MI := (yX5_open, cX5_open, 1, none, 5, 0, 0)
def mi_X5_fail : MI := (yX5_fail, cX5_fail, 3, none, 5, 0, 0)
def mi_X5_failForm : MI := (yX5_failForm, cX5_failForm, 1, none, 5, 0, 0)
def mi_X5_step : MI := (yX5_step, cX5_step, 2, none, 5, 0, 0)
def mi_X5_numberOfWord : MI := (yX5_numberOfWord, cX5_numberOfWord, 6, (some .int), 5, 0, 0)
def mi_X5_isWord : MI := (yX5_isWord, cX5_isWord, 2, (some .boolean), 5, 0, 0)
def mi_X5_isSign : MI := (yX5_isSign, cX5_isSign, 2, (some .boolean), 5, 0, 0)
def mi_X5_takeWord : MI := (yX5_takeWord, cX5_takeWord, 2, none, 5, 0, 0)
def mi_X5_takeSign : MI := (yX5_takeSign, cX5_takeSign, 2, none, 5, 0, 0)
def mi_X5_takeNumber : MI := (yX5_takeNumber, cX5_takeNumber, 5, (some .int), 5, 0, 0)
def mi_X5_nameAtHand : MI := (yX5_nameAtHand, cX5_nameAtHand, 3, (some .int), 5, 0, 0)
def mi_X5_isBlank : MI := (yX5_isBlank, cX5_isBlank, 1, (some .boolean), 5, 0, 0)
def mi_X5_sortOf : MI := (yX5_sortOf, cX5_sortOf, 1, (some .int), 5, 0, 0)
def mi_X6_init : MI := (yX6_init, cX6_init, 1, none, 6, 3, 103)
def mi_X6_reckon : MI := (yX6_reckon, cX6_reckon, 6, (some .int), 6, 0, 0)
def mi_X6_joined : MI := (yX6_joined, cX6_joined, 3, (some .int), 6, 0, 0)
def mi_X6_fact : MI := (yX6_fact, cX6_fact, 2, (some .int), 6, 0, 0)
def mi_X6_push : MI := (yX6_push, cX6_push, 2, none, 6, 0, 0)
def mi_X6_pop : MI := (yX6_pop, cX6_pop, 1, (some .int), 6, 0, 0)
def mi_X7_init : MI := (yX7_init, cX7_init, 1, none, 7, 1, 1600)
def mi_X7_add : MI := (yX7_add, cX7_add, 3, none, 7, 0, 0)
def mi_X7_byteAt : MI := (yX7_byteAt, cX7_byteAt, 2, (some .int), 7, 0, 0)
def mi_X7_pairAt : MI := (yX7_pairAt, cX7_pairAt, 2, (some .int), 7, 0, 0)
def mi_X8_init : MI := (yX8_init, cX8_init, 2, none, 8, 1, 3)
def mi_X8_tell : MI := (yX8_tell, cX8_tell, 4, (some .int), 8, 0, 0)
def mi_X8_size : MI := (yX8_size, cX8_size, 2, none, 8, 0, 0)
def mi_X8_statement : MI := (yX8_statement, cX8_statement, 2, none, 8, 0, 0)
def mi_X8_begins : MI := (yX8_begins, cX8_begins, 3, (some .boolean), 8, 0, 0)
def mi_X8_newKind : MI := (yX8_newKind, cX8_newKind, 4, none, 8, 0, 0)
def mi_X8_newMan : MI := (yX8_newMan, cX8_newMan, 7, none, 8, 0, 0)
def mi_X8_newField : MI := (yX8_newField, cX8_newField, 5, none, 8, 0, 0)
def mi_X8_newName : MI := (yX8_newName, cX8_newName, 4, none, 8, 0, 0)
def mi_X8_takeKind : MI := (yX8_takeKind, cX8_takeKind, 3, (some .int), 8, 0, 0)
def mi_X8_question : MI := (yX8_question, cX8_question, 3, (some .int), 8, 0, 0)
def mi_X9_init : MI := (yX9_init, cX9_init, 1, none, 9, 64, 8388)
def mi_X9_feed : MI := (yX9_feed, cX9_feed, 6, (some .int), 9, 0, 0)
def mi_X9_end : MI := (yX9_end, cX9_end, 2, (some .boolean), 9, 0, 0)
def mi_X9_board : MI := (yX9_board, cX9_board, 3, (some .int), 9, 0, 0)
def mi_X9_fault : MI := (yX9_fault, cX9_fault, 2, (some .int), 9, 0, 0)
def mi_X9_has : MI := (yX9_has, cX9_has, 2, (some .int), 9, 0, 0)
def mi_X9_letter : MI := (yX9_letter, cX9_letter, 4, (some .int), 9, 0, 0)
def mi_X9_kind : MI := (yX9_kind, cX9_kind, 3, (some .int), 9, 0, 0)
def mi_X9_man : MI := (yX9_man, cX9_man, 4, (some .int), 9, 0, 0)
def mi_X9_field : MI := (yX9_field, cX9_field, 3, (some .int), 9, 0, 0)
def mi_X9_at : MI := (yX9_at, cX9_at, 3, (some .int), 9, 0, 0)
def mi_X9_option : MI := (yX9_option, cX9_option, 5, (some .int), 9, 0, 0)
def mi_X9_kept : MI := (yX9_kept, cX9_kept, 3, (some .int), 9, 0, 0)
def mi_X9_balance : MI := (yX9_balance, cX9_balance, 2, (some .long), 9, 0, 0)
def mi_X9_value : MI := (yX9_value, cX9_value, 2, (some .long), 9, 0, 0)
def mi_X9_best : MI := (yX9_best, cX9_best, 2, (some .int), 9, 0, 0)
def mi_X9_forced : MI := (yX9_forced, cX9_forced, 1, (some .int), 9, 0, 0)
def mi_X9_later : MI := (yX9_later, cX9_later, 3, (some .int), 9, 0, 0)
def mi_X9_crop : MI := (yX9_crop, cX9_crop, 3, (some .int), 9, 0, 0)
def mi_X9_spare : MI := (yX9_spare, cX9_spare, 8, (some .int), 9, 0, 0)
def mi_X9_sow : MI := (yX9_sow, cX9_sow, 4, (some .int), 9, 0, 0)
def mi_X9_deeper : MI := (yX9_deeper, cX9_deeper, 5, (some .long), 9, 0, 0)
def mi_X9_see : MI := (yX9_see, cX9_see, 4, (some .int), 9, 0, 0)
def mi_X9_played : MI := (yX9_played, cX9_played, 7, (some .int), 9, 0, 0)
def mi_X9_reached : MI := (yX9_reached, cX9_reached, 3, (some .int), 9, 0, 0)
def mi_X9_play : MI := (yX9_play, cX9_play, 3, (some .int), 9, 0, 0)
def mi_X9_tend : MI := (yX9_tend, cX9_tend, 3, (some .int), 9, 0, 0)
def mi_X9_days : MI := (yX9_days, cX9_days, 5, (some .int), 9, 0, 0)
def mi_X9_chance : MI := (yX9_chance, cX9_chance, 5, (some .int), 9, 0, 0)
def mi_X9_undo : MI := (yX9_undo, cX9_undo, 1, (some .boolean), 9, 0, 0)
def mi_X9_seed : MI := (yX9_seed, cX9_seed, 2, (some .boolean), 9, 0, 0)
def mi_X9_ask : MI := (yX9_ask, cX9_ask, 2, (some .long), 9, 0, 0)
def mi_X9_image : MI := (yX9_image, cX9_image, 3, (some .int), 9, 0, 0)
def mi_X9_octet : MI := (yX9_octet, cX9_octet, 2, (some .int), 9, 0, 0)
def mi_X9_on : MI := (yX9_on, cX9_on, 2, (some .boolean), 9, 0, 0)
def mi_X9_status : MI := (yX9_status, cX9_status, 2, (some .int), 9, 0, 0)
def mi_X9_refuse : MI := (yX9_refuse, cX9_refuse, 2, (some .int), 9, 0, 0)
def mi_X9_noteFault : MI := (yX9_noteFault, cX9_noteFault, 1, none, 9, 0, 0)
def mi_X9_isTold : MI := (yX9_isTold, cX9_isTold, 1, (some .boolean), 9, 0, 0)
def mi_X9_isField : MI := (yX9_isField, cX9_isField, 2, (some .boolean), 9, 0, 0)
def mi_X9_isSide : MI := (yX9_isSide, cX9_isSide, 1, (some .boolean), 9, 0, 0)
def mi_X9_canCome : MI := (yX9_canCome, cX9_canCome, 4, (some .boolean), 9, 0, 0)
def mi_X9_letterOf : MI := (yX9_letterOf, cX9_letterOf, 2, (some .int), 9, 0, 0)
def mi_X9_byteOfMan : MI := (yX9_byteOfMan, cX9_byteOfMan, 1, (some .int), 9, 0, 0)
def mi_X9_moveOf : MI := (yX9_moveOf, cX9_moveOf, 2, (some .int), 9, 0, 0)
def mi_X9_manOfMove : MI := (yX9_manOfMove, cX9_manOfMove, 1, (some .int), 9, 0, 0)
def mi_X9_placeOfMove : MI := (yX9_placeOfMove, cX9_placeOfMove, 1, (some .int), 9, 0, 0)
def mi_X9_farness : MI := (yX9_farness, cX9_farness, 4, (some .int), 9, 0, 0)
def mi_X9_marked : MI := (yX9_marked, cX9_marked, 2, (some .int), 9, 0, 0)
def mi_X9_actDay : MI := (yX9_actDay, cX9_actDay, 4, (some .int), 9, 0, 0)
def mi_X9_draw : MI := (yX9_draw, cX9_draw, 2, (some .int), 9, 0, 0)
def mi_X9_gatherHarm : MI := (yX9_gatherHarm, cX9_gatherHarm, 4, none, 9, 0, 0)
def mi_X9_addHarm : MI := (yX9_addHarm, cX9_addHarm, 2, none, 9, 0, 0)
def mi_X9_leastHarmed : MI := (yX9_leastHarmed, cX9_leastHarmed, 3, (some .int), 9, 0, 0)
def mi_X9_isAsSeen : MI := (yX9_isAsSeen, cX9_isAsSeen, 4, (some .boolean), 9, 0, 0)
def mi_X9_readPlaces : MI := (yX9_readPlaces, cX9_readPlaces, 7, (some .boolean), 9, 0, 0)
def mi_X9_isImage : MI := (yX9_isImage, cX9_isImage, 5, (some .boolean), 9, 0, 0)
def mi_X9_takeImage : MI := (yX9_takeImage, cX9_takeImage, 2, none, 9, 0, 0)
def mi_X9_write : MI := (yX9_write, cX9_write, 2, none, 9, 0, 0)
def mi_X9_writePair : MI := (yX9_writePair, cX9_writePair, 2, none, 9, 0, 0)
def mi_X9_answer : MI := (yX9_answer, cX9_answer, 11, (some .long), 9, 0, 0)
def mi_X10_init : MI := (yX10_init, cX10_init, 1, none, 10, 84, 15224)
def mi_X10_isIn : MI := (yX10_isIn, cX10_isIn, 6, (some .boolean), 10, 0, 0)
def mi_X10_feed : MI := (yX10_feed, cX10_feed, 8, (some .int), 10, 0, 0)
def mi_X10_end : MI := (yX10_end, cX10_end, 2, (some .boolean), 10, 0, 0)
def mi_X10_fail : MI := (yX10_fail, cX10_fail, 3, none, 10, 0, 0)
def mi_X10_isLetter : MI := (yX10_isLetter, cX10_isLetter, 1, (some .boolean), 10, 0, 0)
def mi_X10_isDigit : MI := (yX10_isDigit, cX10_isDigit, 1, (some .boolean), 10, 0, 0)
def mi_X10_look : MI := (yX10_look, cX10_look, 1, (some .int), 10, 0, 0)
def mi_X10_isHere : MI := (yX10_isHere, cX10_isHere, 4, (some .boolean), 10, 0, 0)
def mi_X10_takes : MI := (yX10_takes, cX10_takes, 2, (some .boolean), 10, 0, 0)
def mi_X10_asks : MI := (yX10_asks, cX10_asks, 2, none, 10, 0, 0)
def mi_X10_takesSign : MI := (yX10_takesSign, cX10_takesSign, 2, (some .boolean), 10, 0, 0)
def mi_X10_asksSign : MI := (yX10_asksSign, cX10_asksSign, 2, none, 10, 0, 0)
def mi_X10_number : MI := (yX10_number, cX10_number, 5, (some .int), 10, 0, 0)
def mi_X10_isOwnHere : MI := (yX10_isOwnHere, cX10_isOwnHere, 2, (some .boolean), 10, 0, 0)
def mi_X10_name : MI := (yX10_name, cX10_name, 3, (some .long), 10, 0, 0)
def mi_X10_isAllowed : MI := (yX10_isAllowed, cX10_isAllowed, 2, (some .boolean), 10, 0, 0)
def mi_X10_isFull : MI := (yX10_isFull, cX10_isFull, 4, (some .boolean), 10, 0, 0)
def mi_X10_nameOf : MI := (yX10_nameOf, cX10_nameOf, 5, (some .int), 10, 0, 0)
def mi_X10_newName : MI := (yX10_newName, cX10_newName, 4, (some .long), 10, 0, 0)
def mi_X10_adds : MI := (yX10_adds, cX10_adds, 4, (some .int), 10, 0, 0)
def mi_X10_boardTold : MI := (yX10_boardTold, cX10_boardTold, 1, none, 10, 0, 0)
def mi_X10_kindTold : MI := (yX10_kindTold, cX10_kindTold, 9, none, 10, 0, 0)
def mi_X10_placeTold : MI := (yX10_placeTold, cX10_placeTold, 1, none, 10, 0, 0)
def mi_X10_manTold : MI := (yX10_manTold, cX10_manTold, 9, none, 10, 0, 0)
def mi_X10_fieldTold : MI := (yX10_fieldTold, cX10_fieldTold, 6, none, 10, 0, 0)
def mi_X10_harmTold : MI := (yX10_harmTold, cX10_harmTold, 3, none, 10, 0, 0)
def mi_X10_statementTold : MI := (yX10_statementTold, cX10_statementTold, 2, none, 10, 0, 0)
def mi_X10_board : MI := (yX10_board, cX10_board, 2, (some .int), 10, 0, 0)
def mi_X10_stands : MI := (yX10_stands, cX10_stands, 2, none, 10, 0, 0)
def mi_X10_fault : MI := (yX10_fault, cX10_fault, 2, (some .int), 10, 0, 0)
def mi_X10_manMany : MI := (yX10_manMany, cX10_manMany, 1, (some .int), 10, 0, 0)
def mi_X10_fieldMany : MI := (yX10_fieldMany, cX10_fieldMany, 1, (some .int), 10, 0, 0)
def mi_X10_isMan : MI := (yX10_isMan, cX10_isMan, 2, (some .boolean), 10, 0, 0)
def mi_X10_isField : MI := (yX10_isField, cX10_isField, 2, (some .boolean), 10, 0, 0)
def mi_X10_columnOf : MI := (yX10_columnOf, cX10_columnOf, 2, (some .int), 10, 0, 0)
def mi_X10_rowOf : MI := (yX10_rowOf, cX10_rowOf, 2, (some .int), 10, 0, 0)
def mi_X10_isTaken : MI := (yX10_isTaken, cX10_isTaken, 2, (some .boolean), 10, 0, 0)
def mi_X10_kindOf : MI := (yX10_kindOf, cX10_kindOf, 2, (some .int), 10, 0, 0)
def mi_X10_sideOf : MI := (yX10_sideOf, cX10_sideOf, 2, (some .int), 10, 0, 0)
def mi_X10_worthOf : MI := (yX10_worthOf, cX10_worthOf, 2, (some .int), 10, 0, 0)
def mi_X10_isCrown : MI := (yX10_isCrown, cX10_isCrown, 2, (some .boolean), 10, 0, 0)
def mi_X10_places : MI := (yX10_places, cX10_places, 1, (some .int), 10, 0, 0)
def mi_X10_manAt : MI := (yX10_manAt, cX10_manAt, 4, (some .int), 10, 0, 0)
def mi_X10_abs : MI := (yX10_abs, cX10_abs, 1, (some .int), 10, 0, 0)
def mi_X10_farOff : MI := (yX10_farOff, cX10_farOff, 6, (some .int), 10, 0, 0)
def mi_X10_sign : MI := (yX10_sign, cX10_sign, 1, (some .int), 10, 0, 0)
def mi_X10_isWayFree : MI := (yX10_isWayFree, cX10_isWayFree, 8, (some .boolean), 10, 0, 0)
def mi_X10_canGo : MI := (yX10_canGo, cX10_canGo, 9, (some .boolean), 10, 0, 0)
def mi_X10_movesOf : MI := (yX10_movesOf, cX10_movesOf, 4, (some .int), 10, 0, 0)
def mi_X10_hasMove : MI := (yX10_hasMove, cX10_hasMove, 2, (some .boolean), 10, 0, 0)
def mi_X10_isCrownTaken : MI := (yX10_isCrownTaken, cX10_isCrownTaken, 2, (some .boolean), 10, 0, 0)
def mi_X10_isOver : MI := (yX10_isOver, cX10_isOver, 1, (some .boolean), 10, 0, 0)
def mi_X10_does : MI := (yX10_does, cX10_does, 7, none, 10, 0, 0)
def mi_X10_undoes : MI := (yX10_undoes, cX10_undoes, 4, none, 10, 0, 0)
def mi_X10_balanceOf : MI := (yX10_balanceOf, cX10_balanceOf, 4, (some .int), 10, 0, 0)
def mi_X10_value0 : MI := (yX10_value0, cX10_value0, 1, (some .int), 10, 0, 0)
def mi_X10_value1 : MI := (yX10_value1, cX10_value1, 6, (some .int), 10, 0, 0)
def mi_X10_value2 : MI := (yX10_value2, cX10_value2, 6, (some .int), 10, 0, 0)
def mi_X10_value3 : MI := (yX10_value3, cX10_value3, 6, (some .int), 10, 0, 0)
def mi_X10_valueBy : MI := (yX10_valueBy, cX10_valueBy, 2, (some .int), 10, 0, 0)
def mi_X10_choosesBest : MI := (yX10_choosesBest, cX10_choosesBest, 7, none, 10, 0, 0)
def mi_X10_chooses : MI := (yX10_chooses, cX10_chooses, 5, none, 10, 0, 0)
def mi_X10_movesNow : MI := (yX10_movesNow, cX10_movesNow, 3, (some .int), 10, 0, 0)
def mi_X10_isCheck : MI := (yX10_isCheck, cX10_isCheck, 4, (some .boolean), 10, 0, 0)
def mi_X10_harmAt : MI := (yX10_harmAt, cX10_harmAt, 7, (some .long), 10, 0, 0)
def mi_X10_isKept : MI := (yX10_isKept, cX10_isKept, 2, none, 10, 0, 0)
def mi_X10_playsChosen : MI := (yX10_playsChosen, cX10_playsChosen, 7, none, 10, 0, 0)
def mi_X10_laysHarms : MI := (yX10_laysHarms, cX10_laysHarms, 5, none, 10, 0, 0)
def mi_X10_dayGoes : MI := (yX10_dayGoes, cX10_dayGoes, 2, none, 10, 0, 0)
def mi_X10_choosesToday : MI := (yX10_choosesToday, cX10_choosesToday, 1, none, 10, 0, 0)
def mi_X10_daysGo : MI := (yX10_daysGo, cX10_daysGo, 3, none, 10, 0, 0)
def mi_X10_putsAside : MI := (yX10_putsAside, cX10_putsAside, 2, none, 10, 0, 0)
def mi_X10_triesAnew : MI := (yX10_triesAnew, cX10_triesAnew, 2, none, 10, 0, 0)
def mi_X10_takesBack : MI := (yX10_takesBack, cX10_takesBack, 1, none, 10, 0, 0)
def mi_X10_isAhead : MI := (yX10_isAhead, cX10_isAhead, 4, (some .boolean), 10, 0, 0)
def mi_X10_bearAll : MI := (yX10_bearAll, cX10_bearAll, 3, (some .int), 10, 0, 0)
def mi_X10_menOf : MI := (yX10_menOf, cX10_menOf, 4, (some .int), 10, 0, 0)
def mi_X10_has : MI := (yX10_has, cX10_has, 2, (some .int), 10, 0, 0)
def mi_X10_letter : MI := (yX10_letter, cX10_letter, 9, (some .int), 10, 0, 0)
def mi_X10_kind : MI := (yX10_kind, cX10_kind, 3, (some .int), 10, 0, 0)
def mi_X10_man : MI := (yX10_man, cX10_man, 3, (some .int), 10, 0, 0)
def mi_X10_field : MI := (yX10_field, cX10_field, 3, (some .int), 10, 0, 0)
def mi_X10_at : MI := (yX10_at, cX10_at, 3, (some .int), 10, 0, 0)
def mi_X10_option : MI := (yX10_option, cX10_option, 7, (some .int), 10, 0, 0)
def mi_X10_kept : MI := (yX10_kept, cX10_kept, 3, (some .int), 10, 0, 0)
def mi_X10_balance : MI := (yX10_balance, cX10_balance, 2, (some .long), 10, 0, 0)
def mi_X10_value : MI := (yX10_value, cX10_value, 2, (some .long), 10, 0, 0)
def mi_X10_best : MI := (yX10_best, cX10_best, 2, (some .int), 10, 0, 0)
def mi_X10_takesCrown : MI := (yX10_takesCrown, cX10_takesCrown, 1, (some .boolean), 10, 0, 0)
def mi_X10_isForcedNow : MI := (yX10_isForcedNow, cX10_isForcedNow, 5, (some .boolean), 10, 0, 0)
def mi_X10_forced : MI := (yX10_forced, cX10_forced, 4, (some .int), 10, 0, 0)
def mi_X10_later : MI := (yX10_later, cX10_later, 4, (some .int), 10, 0, 0)
def mi_X10_crop : MI := (yX10_crop, cX10_crop, 4, (some .int), 10, 0, 0)
def mi_X10_spare : MI := (yX10_spare, cX10_spare, 9, (some .int), 10, 0, 0)
def mi_X10_sow : MI := (yX10_sow, cX10_sow, 5, (some .int), 10, 0, 0)
def mi_X10_deeper : MI := (yX10_deeper, cX10_deeper, 6, (some .long), 10, 0, 0)
def mi_X10_refuses : MI := (yX10_refuses, cX10_refuses, 2, (some .int), 10, 0, 0)
def mi_X10_see : MI := (yX10_see, cX10_see, 4, (some .int), 10, 0, 0)
def mi_X10_isAsSeen : MI := (yX10_isAsSeen, cX10_isAsSeen, 2, (some .boolean), 10, 0, 0)
def mi_X10_played : MI := (yX10_played, cX10_played, 8, (some .int), 10, 0, 0)
def mi_X10_ways0 : MI := (yX10_ways0, cX10_ways0, 2, (some .int), 10, 0, 0)
def mi_X10_ways1 : MI := (yX10_ways1, cX10_ways1, 4, (some .int), 10, 0, 0)
def mi_X10_ways2 : MI := (yX10_ways2, cX10_ways2, 4, (some .int), 10, 0, 0)
def mi_X10_ways3 : MI := (yX10_ways3, cX10_ways3, 4, (some .int), 10, 0, 0)
def mi_X10_areMen : MI := (yX10_areMen, cX10_areMen, 6, (some .boolean), 10, 0, 0)
def mi_X10_reached : MI := (yX10_reached, cX10_reached, 4, (some .int), 10, 0, 0)
def mi_X10_keeps : MI := (yX10_keeps, cX10_keeps, 2, none, 10, 0, 0)
def mi_X10_undo : MI := (yX10_undo, cX10_undo, 2, (some .boolean), 10, 0, 0)
def mi_X10_play : MI := (yX10_play, cX10_play, 2, (some .int), 10, 0, 0)
def mi_X10_tend : MI := (yX10_tend, cX10_tend, 4, (some .int), 10, 0, 0)
def mi_X10_days : MI := (yX10_days, cX10_days, 4, (some .int), 10, 0, 0)
def mi_X10_seed : MI := (yX10_seed, cX10_seed, 2, (some .boolean), 10, 0, 0)
def mi_X10_drawOf : MI := (yX10_drawOf, cX10_drawOf, 2, (some .int), 10, 0, 0)
def mi_X10_chance : MI := (yX10_chance, cX10_chance, 5, (some .int), 10, 0, 0)
def mi_X10_qCode : MI := (yX10_qCode, cX10_qCode, 2, none, 10, 0, 0)
def mi_X10_qOpens : MI := (yX10_qOpens, cX10_qOpens, 3, none, 10, 0, 0)
def mi_X10_qIsOn : MI := (yX10_qIsOn, cX10_qIsOn, 2, (some .boolean), 10, 0, 0)
def mi_X10_qDrops : MI := (yX10_qDrops, cX10_qDrops, 1, none, 10, 0, 0)
def mi_X10_qIsBracket : MI := (yX10_qIsBracket, cX10_qIsBracket, 1, (some .boolean), 10, 0, 0)
def mi_X10_qBracket : MI := (yX10_qBracket, cX10_qBracket, 2, (some .int), 10, 0, 0)
def mi_X10_qDropsToBracket : MI := (yX10_qDropsToBracket, cX10_qDropsToBracket, 1, none, 10, 0, 0)
def mi_X10_qWordHere : MI := (yX10_qWordHere, cX10_qWordHere, 1, (some .int), 10, 0, 0)
def mi_X10_qWordOf : MI := (yX10_qWordOf, cX10_qWordOf, 4, (some .int), 10, 0, 0)
def mi_X10_qAsksWord : MI := (yX10_qAsksWord, cX10_qAsksWord, 2, none, 10, 0, 0)
def mi_X10_qEndsPart : MI := (yX10_qEndsPart, cX10_qEndsPart, 1, none, 10, 0, 0)
def mi_X10_qPartTold : MI := (yX10_qPartTold, cX10_qPartTold, 6, none, 10, 0, 0)
def mi_X10_qGoesOn : MI := (yX10_qGoesOn, cX10_qGoesOn, 2, (some .boolean), 10, 0, 0)
def mi_X10_qSums : MI := (yX10_qSums, cX10_qSums, 3, none, 10, 0, 0)
def mi_X10_qFact : MI := (yX10_qFact, cX10_qFact, 2, none, 10, 0, 0)
def mi_X10_qHasSquare : MI := (yX10_qHasSquare, cX10_qHasSquare, 2, (some .boolean), 10, 0, 0)
def mi_X10_qDropsNots : MI := (yX10_qDropsNots, cX10_qDropsNots, 1, none, 10, 0, 0)
def mi_X10_qTest : MI := (yX10_qTest, cX10_qTest, 3, none, 10, 0, 0)
def mi_X10_qGoesOnTest : MI := (yX10_qGoesOnTest, cX10_qGoesOnTest, 1, (some .boolean), 10, 0, 0)
def mi_X10_qClip : MI := (yX10_qClip, cX10_qClip, 2, (some .long), 10, 0, 0)
def mi_X10_qFloor : MI := (yX10_qFloor, cX10_qFloor, 6, (some .long), 10, 0, 0)
def mi_X10_qPuts : MI := (yX10_qPuts, cX10_qPuts, 3, none, 10, 0, 0)
def mi_X10_qJoins : MI := (yX10_qJoins, cX10_qJoins, 6, none, 10, 0, 0)
def mi_X10_qPartOf : MI := (yX10_qPartOf, cX10_qPartOf, 3, (some .long), 10, 0, 0)
def mi_X10_qOf : MI := (yX10_qOf, cX10_qOf, 5, (some .long), 10, 0, 0)
def mi_X10_qTold : MI := (yX10_qTold, cX10_qTold, 4, (some .long), 10, 0, 0)
def mi_X10_qKind : MI := (yX10_qKind, cX10_qKind, 2, (some .int), 10, 0, 0)
def mi_X10_qTakes : MI := (yX10_qTakes, cX10_qTakes, 6, none, 10, 0, 0)
def mi_X10_ask : MI := (yX10_ask, cX10_ask, 3, (some .long), 10, 0, 0)
def mi_X10_checked : MI := (yX10_checked, cX10_checked, 4, (some .int), 10, 0, 0)
def mi_X10_writes : MI := (yX10_writes, cX10_writes, 2, none, 10, 0, 0)
def mi_X10_image : MI := (yX10_image, cX10_image, 2, (some .int), 10, 0, 0)
def mi_X10_octet : MI := (yX10_octet, cX10_octet, 2, (some .int), 10, 0, 0)
def mi_X10_isImage : MI := (yX10_isImage, cX10_isImage, 4, (some .boolean), 10, 0, 0)
def mi_X10_on : MI := (yX10_on, cX10_on, 4, (some .boolean), 10, 0, 0)
def mi_X10_status : MI := (yX10_status, cX10_status, 2, (some .int), 10, 0, 0)
def mi_J6_bitCount_0f7a4 : MI := (yJ6_bitCount_0f7a4, cJ6_bitCount_0f7a4, 1, (some .int), 11, 0, 0)
def mi_J9_floorDiv_7cf53 : MI := (yJ9_floorDiv_7cf53, cJ9_floorDiv_7cf53, 3, (some .int), 12, 0, 0)
def mi_J9_abs_0f7a4 : MI := (yJ9_abs_0f7a4, cJ9_abs_0f7a4, 1, (some .int), 12, 0, 0)
def mi_J9_max_7cf53 : MI := (yJ9_max_7cf53, cJ9_max_7cf53, 2, (some .int), 12, 0, 0)
def mi_J9_max_f86c9 : MI := (yJ9_max_f86c9, cJ9_max_f86c9, 4, (some .long), 12, 0, 0)
def mi_J9_min_7cf53 : MI := (yJ9_min_7cf53, cJ9_min_7cf53, 2, (some .int), 12, 0, 0)
def mi_J9_min_f86c9 : MI := (yJ9_min_f86c9, cJ9_min_f86c9, 4, (some .long), 12, 0, 0)
def mi_J0_length_8abf5 : MI := (yJ0_length_8abf5, cJ0_length_8abf5, 1, (some .int), 14, 0, 0)
def mi_J0_charAt_5068e : MI := (yJ0_charAt_5068e, cJ0_charAt_5068e, 2, (some .char), 14, 0, 0)
def mi_J0_coder_7d493 : MI := (yJ0_coder_7d493, cJ0_coder_7d493, 1, (some .byte), 14, 0, 0)
def mi_J0_isLatin1_aae02 : MI := (yJ0_isLatin1_aae02, cJ0_isLatin1_aae02, 1, (some .boolean), 14, 0, 0)
def mi_J0_checkIndex_df160 : MI := (yJ0_checkIndex_df160, cJ0_checkIndex_df160, 2, none, 14, 0, 0)
def mi_J1_charAt_3b067 : MI := (yJ1_charAt_3b067, cJ1_charAt_3b067, 2, (some .char), 15, 0, 0)
def mi_J7_fill_53178 : MI := (yJ7_fill_53178, cJ7_fill_53178, 4, none, 13, 0, 0)
def mi_J3_checkIndex_8e157 : MI := (yJ3_checkIndex_8e157, cJ3_checkIndex_8e157, 3, (some .int), 16, 0, 0)
theorem wcl_0 : sm_RC 0 ≠ "java/lang/invoke/MethodHandle" ∧ sm_RC 0 ≠ "java/lang/invoke/VarHandle" := by decide +kernel
theorem wini_0 : Cond.initialized "GardenChess$Chronicle" ∈ sm_Tg := sg_1 (i := 11) rfl rfl
theorem wcl_1 : sm_RC 1 ≠ "java/lang/invoke/MethodHandle" ∧ sm_RC 1 ≠ "java/lang/invoke/VarHandle" := by decide +kernel
theorem wini_1 : Cond.initialized "GardenChess$Composer" ∈ sm_Tg := sg_1 (i := 5) rfl rfl
theorem wcl_2 : sm_RC 2 ≠ "java/lang/invoke/MethodHandle" ∧ sm_RC 2 ≠ "java/lang/invoke/VarHandle" := by decide +kernel
theorem wini_2 : Cond.initialized "GardenChess$Formula" ∈ sm_Tg := sg_1 (i := 7) rfl rfl
theorem wcl_3 : sm_RC 3 ≠ "java/lang/invoke/MethodHandle" ∧ sm_RC 3 ≠ "java/lang/invoke/VarHandle" := by decide +kernel
theorem wini_3 : Cond.initialized "GardenChess$Game" ∈ sm_Tg := sg_1 (i := 8) rfl rfl
theorem wcl_4 : sm_RC 4 ≠ "java/lang/invoke/MethodHandle" ∧ sm_RC 4 ≠ "java/lang/invoke/VarHandle" := by decide +kernel
theorem wini_4 : Cond.initialized "GardenChess$Plan" ∈ sm_Tg := sg_1 (i := 6) rfl rfl
theorem wcl_5 : sm_RC 5 ≠ "java/lang/invoke/MethodHandle" ∧ sm_RC 5 ≠ "java/lang/invoke/VarHandle" := by decide +kernel
theorem wini_5 : Cond.initialized "GardenChess$Reader" ∈ sm_Tg := sg_1 (i := 3) rfl rfl
theorem wcl_6 : sm_RC 6 ≠ "java/lang/invoke/MethodHandle" ∧ sm_RC 6 ≠ "java/lang/invoke/VarHandle" := by decide +kernel
theorem wini_6 : Cond.initialized "GardenChess$Reckoner" ∈ sm_Tg := sg_1 (i := 9) rfl rfl
theorem wcl_7 : sm_RC 7 ≠ "java/lang/invoke/MethodHandle" ∧ sm_RC 7 ≠ "java/lang/invoke/VarHandle" := by decide +kernel
theorem wini_7 : Cond.initialized "GardenChess$Tape" ∈ sm_Tg := sg_1 (i := 2) rfl rfl
theorem wcl_8 : sm_RC 8 ≠ "java/lang/invoke/MethodHandle" ∧ sm_RC 8 ≠ "java/lang/invoke/VarHandle" := by decide +kernel
theorem wini_8 : Cond.initialized "GardenChess$Teller" ∈ sm_Tg := sg_1 (i := 4) rfl rfl
theorem wcl_9 : sm_RC 9 ≠ "java/lang/invoke/MethodHandle" ∧ sm_RC 9 ≠ "java/lang/invoke/VarHandle" := by decide +kernel
theorem wini_9 : Cond.initialized "GardenChess" ∈ sm_Tg := sg_1 (i := 1) rfl rfl
theorem wcl_10 : sm_RC 10 ≠ "java/lang/invoke/MethodHandle" ∧ sm_RC 10 ≠ "java/lang/invoke/VarHandle" := by decide +kernel
theorem wini_10 : Cond.initialized "GardenChessModel" ∈ sm_Tg := sg_1 (i := 12) rfl rfl
theorem wcl_11 : sm_RC 11 ≠ "java/lang/invoke/MethodHandle" ∧ sm_RC 11 ≠ "java/lang/invoke/VarHandle" := by decide +kernel
theorem wini_11 : Cond.initialized "java/lang/Integer" ∈ sm_Tg := sg_1 (i := 18) rfl rfl
theorem wcl_12 : sm_RC 12 ≠ "java/lang/invoke/MethodHandle" ∧ sm_RC 12 ≠ "java/lang/invoke/VarHandle" := by decide +kernel
theorem wini_12 : Cond.initialized "java/lang/Math" ∈ sm_Tg := sg_1 (i := 17) rfl rfl
theorem wcl_13 : sm_RC 13 ≠ "java/lang/invoke/MethodHandle" ∧ sm_RC 13 ≠ "java/lang/invoke/VarHandle" := by decide +kernel
theorem wini_13 : Cond.initialized "java/util/Arrays" ∈ sm_Tg := sg_1 (i := 10) rfl rfl
theorem wcl_14 : sm_RC 14 ≠ "java/lang/invoke/MethodHandle" ∧ sm_RC 14 ≠ "java/lang/invoke/VarHandle" := by decide +kernel
theorem wini_14 : Cond.initialized "java/lang/String" ∈ sm_Tg := sg_1 (i := 13) rfl rfl
theorem wcl_15 : sm_RC 15 ≠ "java/lang/invoke/MethodHandle" ∧ sm_RC 15 ≠ "java/lang/invoke/VarHandle" := by decide +kernel
theorem wini_15 : Cond.initialized "java/lang/StringLatin1" ∈ sm_Tg := sg_1 (i := 14) rfl rfl
theorem wcl_16 : sm_RC 16 ≠ "java/lang/invoke/MethodHandle" ∧ sm_RC 16 ≠ "java/lang/invoke/VarHandle" := by decide +kernel
theorem wini_16 : Cond.initialized "jdk/internal/util/Preconditions" ∈ sm_Tg := sg_1 (i := 15) rfl rfl
theorem wm_X0_init : sm_mi mi_X0_init 0 := ⟨sg_2 (i := 111) rfl rfl, wini_0, rfl, ⟨wcl_0.1, wcl_0.2, by decide +kernel⟩, Nat.le_of_ble_eq_true rfl⟩
theorem wi_X0_init : Cond.instanceMethod (mi_X0_init).1 ∈ sm_Tg := sg_2 (i := 110) rfl rfl
theorem wm_X0_forget : sm_mi mi_X0_forget 0 := ⟨sg_3 (i := 182) rfl rfl, wini_0, rfl, ⟨wcl_0.1, wcl_0.2, by decide +kernel⟩, Nat.le_of_ble_eq_true rfl⟩
theorem wi_X0_forget : Cond.instanceMethod (mi_X0_forget).1 ∈ sm_Tg := sg_3 (i := 180) rfl rfl
theorem wv_X0_forget : Cond.selects (mi_X0_forget).1.cls (mi_X0_forget).1 (mi_X0_forget).1 ∈ sm_Tg := sg_3 (i := 181) rfl rfl
theorem wm_X0_keep : sm_mi mi_X0_keep 3 := ⟨sg_5 (i := 87) rfl rfl, wini_0, rfl, ⟨wcl_0.1, wcl_0.2, by decide +kernel⟩, Nat.le_of_ble_eq_true rfl⟩
theorem wi_X0_keep : Cond.instanceMethod (mi_X0_keep).1 ∈ sm_Tg := sg_5 (i := 85) rfl rfl
theorem wv_X0_keep : Cond.selects (mi_X0_keep).1.cls (mi_X0_keep).1 (mi_X0_keep).1 ∈ sm_Tg := sg_5 (i := 86) rfl rfl
theorem wm_X0_told : sm_mi mi_X0_told 0 := ⟨sg_4 (i := 0) rfl rfl, wini_0, rfl, ⟨wcl_0.1, wcl_0.2, by decide +kernel⟩, Nat.le_of_ble_eq_true rfl⟩
theorem wi_X0_told : Cond.instanceMethod (mi_X0_told).1 ∈ sm_Tg := sg_3 (i := 238) rfl rfl
theorem wv_X0_told : Cond.selects (mi_X0_told).1.cls (mi_X0_told).1 (mi_X0_told).1 ∈ sm_Tg := sg_3 (i := 239) rfl rfl
theorem wm_X0_tell : sm_mi mi_X0_tell 2 := ⟨sg_4 (i := 96) rfl rfl, wini_0, rfl, ⟨wcl_0.1, wcl_0.2, by decide +kernel⟩, Nat.le_of_ble_eq_true rfl⟩
theorem wi_X0_tell : Cond.instanceMethod (mi_X0_tell).1 ∈ sm_Tg := sg_4 (i := 94) rfl rfl
theorem wv_X0_tell : Cond.selects (mi_X0_tell).1.cls (mi_X0_tell).1 (mi_X0_tell).1 ∈ sm_Tg := sg_4 (i := 95) rfl rfl
theorem wm_X0_remember : sm_mi mi_X0_remember 1 := ⟨sg_5 (i := 78) rfl rfl, wini_0, rfl, ⟨wcl_0.1, wcl_0.2, by decide +kernel⟩, Nat.le_of_ble_eq_true rfl⟩
theorem wi_X0_remember : Cond.instanceMethod (mi_X0_remember).1 ∈ sm_Tg := sg_5 (i := 76) rfl rfl
theorem wv_X0_remember : Cond.selects (mi_X0_remember).1.cls (mi_X0_remember).1 (mi_X0_remember).1 ∈ sm_Tg := sg_5 (i := 77) rfl rfl
theorem wm_X0_takeBack : sm_mi mi_X0_takeBack 1 := ⟨sg_5 (i := 114) rfl rfl, wini_0, rfl, ⟨wcl_0.1, wcl_0.2, by decide +kernel⟩, Nat.le_of_ble_eq_true rfl⟩
theorem wi_X0_takeBack : Cond.instanceMethod (mi_X0_takeBack).1 ∈ sm_Tg := sg_5 (i := 112) rfl rfl
theorem wv_X0_takeBack : Cond.selects (mi_X0_takeBack).1.cls (mi_X0_takeBack).1 (mi_X0_takeBack).1 ∈ sm_Tg := sg_5 (i := 113) rfl rfl
theorem wm_X1_init : sm_mi mi_X1_init 1 := ⟨sg_1 (i := 92) rfl rfl, wini_1, rfl, ⟨wcl_1.1, wcl_1.2, by decide +kernel⟩, Nat.le_of_ble_eq_true rfl⟩
theorem wi_X1_init : Cond.instanceMethod (mi_X1_init).1 ∈ sm_Tg := sg_1 (i := 91) rfl rfl
theorem wm_X1_start : sm_mi mi_X1_start 2 := ⟨sg_3 (i := 121) rfl rfl, wini_1, rfl, ⟨wcl_1.1, wcl_1.2, by decide +kernel⟩, Nat.le_of_ble_eq_true rfl⟩
theorem wi_X1_start : Cond.instanceMethod (mi_X1_start).1 ∈ sm_Tg := sg_3 (i := 119) rfl rfl
theorem wv_X1_start : Cond.selects (mi_X1_start).1.cls (mi_X1_start).1 (mi_X1_start).1 ∈ sm_Tg := sg_3 (i := 120) rfl rfl
theorem wm_X1_put : sm_mi mi_X1_put 1 := ⟨sg_3 (i := 138) rfl rfl, wini_1, rfl, ⟨wcl_1.1, wcl_1.2, by decide +kernel⟩, Nat.le_of_ble_eq_true rfl⟩
theorem wi_X1_put : Cond.instanceMethod (mi_X1_put).1 ∈ sm_Tg := sg_3 (i := 137) rfl rfl
theorem wv_X1_put : Cond.selects (mi_X1_put).1.cls (mi_X1_put).1 (mi_X1_put).1 ∈ sm_Tg := sg_P (i := 14) rfl rfl
theorem wm_X1_sum : sm_mi mi_X1_sum 1 := ⟨sg_3 (i := 125) rfl rfl, wini_1, rfl, ⟨wcl_1.1, wcl_1.2, by decide +kernel⟩, Nat.le_of_ble_eq_true rfl⟩
theorem wi_X1_sum : Cond.instanceMethod (mi_X1_sum).1 ∈ sm_Tg := sg_3 (i := 123) rfl rfl
theorem wv_X1_sum : Cond.selects (mi_X1_sum).1.cls (mi_X1_sum).1 (mi_X1_sum).1 ∈ sm_Tg := sg_3 (i := 124) rfl rfl
theorem wm_X1_product : sm_mi mi_X1_product 1 := ⟨sg_3 (i := 129) rfl rfl, wini_1, rfl, ⟨wcl_1.1, wcl_1.2, by decide +kernel⟩, Nat.le_of_ble_eq_true rfl⟩
theorem wi_X1_product : Cond.instanceMethod (mi_X1_product).1 ∈ sm_Tg := sg_3 (i := 128) rfl rfl
theorem wv_X1_product : Cond.selects (mi_X1_product).1.cls (mi_X1_product).1 (mi_X1_product).1 ∈ sm_Tg := sg_P (i := 12) rfl rfl
theorem wm_X1_part : sm_mi mi_X1_part 1 := ⟨sg_3 (i := 133) rfl rfl, wini_1, rfl, ⟨wcl_1.1, wcl_1.2, by decide +kernel⟩, Nat.le_of_ble_eq_true rfl⟩
theorem wi_X1_part : Cond.instanceMethod (mi_X1_part).1 ∈ sm_Tg := sg_3 (i := 132) rfl rfl
theorem wv_X1_part : Cond.selects (mi_X1_part).1.cls (mi_X1_part).1 (mi_X1_part).1 ∈ sm_Tg := sg_P (i := 13) rfl rfl
theorem wm_X1_pair : sm_mi mi_X1_pair 2 := ⟨sg_3 (i := 163) rfl rfl, wini_1, rfl, ⟨wcl_1.1, wcl_1.2, by decide +kernel⟩, Nat.le_of_ble_eq_true rfl⟩
theorem wi_X1_pair : Cond.instanceMethod (mi_X1_pair).1 ∈ sm_Tg := sg_3 (i := 162) rfl rfl
theorem wv_X1_pair : Cond.selects (mi_X1_pair).1.cls (mi_X1_pair).1 (mi_X1_pair).1 ∈ sm_Tg := sg_P (i := 16) rfl rfl
theorem wm_X1_opens : sm_mi mi_X1_opens 1 := ⟨sg_3 (i := 150) rfl rfl, wini_1, rfl, ⟨wcl_1.1, wcl_1.2, by decide +kernel⟩, Nat.le_of_ble_eq_true rfl⟩
theorem wi_X1_opens : Cond.instanceMethod (mi_X1_opens).1 ∈ sm_Tg := sg_3 (i := 149) rfl rfl
theorem wv_X1_opens : Cond.selects (mi_X1_opens).1.cls (mi_X1_opens).1 (mi_X1_opens).1 ∈ sm_Tg := sg_P (i := 15) rfl rfl
theorem wm_X1_isFact : sm_mi mi_X1_isFact 1 := ⟨sg_3 (i := 168) rfl rfl, wini_1, rfl, ⟨wcl_1.1, wcl_1.2, by decide +kernel⟩, Nat.le_of_ble_eq_true rfl⟩
theorem wi_X1_isFact : Cond.instanceMethod (mi_X1_isFact).1 ∈ sm_Tg := sg_3 (i := 167) rfl rfl
theorem wv_X1_isFact : Cond.selects (mi_X1_isFact).1.cls (mi_X1_isFact).1 (mi_X1_isFact).1 ∈ sm_Tg := sg_P (i := 17) rfl rfl
theorem wm_X1_test : sm_mi mi_X1_test 1 := ⟨sg_5 (i := 131) rfl rfl, wini_1, rfl, ⟨wcl_1.1, wcl_1.2, by decide +kernel⟩, Nat.le_of_ble_eq_true rfl⟩
theorem wi_X1_test : Cond.instanceMethod (mi_X1_test).1 ∈ sm_Tg := sg_5 (i := 129) rfl rfl
theorem wv_X1_test : Cond.selects (mi_X1_test).1.cls (mi_X1_test).1 (mi_X1_test).1 ∈ sm_Tg := sg_5 (i := 130) rfl rfl
theorem wm_X1_both : sm_mi mi_X1_both 1 := ⟨sg_5 (i := 135) rfl rfl, wini_1, rfl, ⟨wcl_1.1, wcl_1.2, by decide +kernel⟩, Nat.le_of_ble_eq_true rfl⟩
theorem wi_X1_both : Cond.instanceMethod (mi_X1_both).1 ∈ sm_Tg := sg_5 (i := 134) rfl rfl
theorem wv_X1_both : Cond.selects (mi_X1_both).1.cls (mi_X1_both).1 (mi_X1_both).1 ∈ sm_Tg := sg_P (i := 43) rfl rfl
theorem wm_X1_truth : sm_mi mi_X1_truth 1 := ⟨sg_5 (i := 139) rfl rfl, wini_1, rfl, ⟨wcl_1.1, wcl_1.2, by decide +kernel⟩, Nat.le_of_ble_eq_true rfl⟩
theorem wi_X1_truth : Cond.instanceMethod (mi_X1_truth).1 ∈ sm_Tg := sg_5 (i := 138) rfl rfl
theorem wv_X1_truth : Cond.selects (mi_X1_truth).1.cls (mi_X1_truth).1 (mi_X1_truth).1 ∈ sm_Tg := sg_P (i := 44) rfl rfl
theorem wm_X1_comparing : sm_mi mi_X1_comparing 0 := ⟨sg_5 (i := 144) rfl rfl, wini_1, rfl, ⟨wcl_1.1, wcl_1.2, by decide +kernel⟩, Nat.le_of_ble_eq_true rfl⟩
theorem wi_X1_comparing : Cond.instanceMethod (mi_X1_comparing).1 ∈ sm_Tg := sg_5 (i := 143) rfl rfl
theorem wv_X1_comparing : Cond.selects (mi_X1_comparing).1.cls (mi_X1_comparing).1 (mi_X1_comparing).1 ∈ sm_Tg := sg_P (i := 45) rfl rfl
theorem wm_X2_init : sm_mi mi_X2_init 0 := ⟨sg_1 (i := 121) rfl rfl, wini_2, rfl, ⟨wcl_2.1, wcl_2.2, by decide +kernel⟩, Nat.le_of_ble_eq_true rfl⟩
theorem wi_X2_init : Cond.instanceMethod (mi_X2_init).1 ∈ sm_Tg := sg_1 (i := 120) rfl rfl
theorem wm_X2_put : sm_mi mi_X2_put 1 := ⟨sg_3 (i := 142) rfl rfl, wini_2, rfl, ⟨wcl_2.1, wcl_2.2, by decide +kernel⟩, Nat.le_of_ble_eq_true rfl⟩
theorem wi_X2_put : Cond.instanceMethod (mi_X2_put).1 ∈ sm_Tg := sg_3 (i := 140) rfl rfl
theorem wv_X2_put : Cond.selects (mi_X2_put).1.cls (mi_X2_put).1 (mi_X2_put).1 ∈ sm_Tg := sg_3 (i := 141) rfl rfl
theorem wm_X3_init : sm_mi mi_X3_init 1 := ⟨sg_2 (i := 11) rfl rfl, wini_3, rfl, ⟨wcl_3.1, wcl_3.2, by decide +kernel⟩, Nat.le_of_ble_eq_true rfl⟩
theorem wi_X3_init : Cond.instanceMethod (mi_X3_init).1 ∈ sm_Tg := sg_2 (i := 10) rfl rfl
theorem wm_X3_begin : sm_mi mi_X3_begin 1 := ⟨sg_3 (i := 178) rfl rfl, wini_3, rfl, ⟨wcl_3.1, wcl_3.2, by decide +kernel⟩, Nat.le_of_ble_eq_true rfl⟩
theorem wi_X3_begin : Cond.instanceMethod (mi_X3_begin).1 ∈ sm_Tg := sg_3 (i := 176) rfl rfl
theorem wv_X3_begin : Cond.selects (mi_X3_begin).1.cls (mi_X3_begin).1 (mi_X3_begin).1 ∈ sm_Tg := sg_3 (i := 177) rfl rfl
theorem wm_X3_copy : sm_mi mi_X3_copy 1 := ⟨sg_4 (i := 63) rfl rfl, wini_3, rfl, ⟨wcl_3.1, wcl_3.2, by decide +kernel⟩, Nat.le_of_ble_eq_true rfl⟩
theorem wi_X3_copy : Cond.instanceMethod (mi_X3_copy).1 ∈ sm_Tg := sg_4 (i := 61) rfl rfl
theorem wv_X3_copy : Cond.selects (mi_X3_copy).1.cls (mi_X3_copy).1 (mi_X3_copy).1 ∈ sm_Tg := sg_4 (i := 62) rfl rfl
theorem wm_X3_settle : sm_mi mi_X3_settle 0 := ⟨sg_2 (i := 37) rfl rfl, wini_3, rfl, ⟨wcl_3.1, wcl_3.2, by decide +kernel⟩, Nat.le_of_ble_eq_true rfl⟩
theorem wi_X3_settle : Cond.instanceMethod (mi_X3_settle).1 ∈ sm_Tg := sg_2 (i := 35) rfl rfl
theorem wv_X3_settle : Cond.selects (mi_X3_settle).1.cls (mi_X3_settle).1 (mi_X3_settle).1 ∈ sm_Tg := sg_2 (i := 36) rfl rfl
theorem wm_X3_menOf : sm_mi mi_X3_menOf 1 := ⟨sg_3 (i := 232) rfl rfl, wini_3, rfl, ⟨wcl_3.1, wcl_3.2, by decide +kernel⟩, Nat.le_of_ble_eq_true rfl⟩
theorem wi_X3_menOf : Cond.instanceMethod (mi_X3_menOf).1 ∈ sm_Tg := sg_3 (i := 230) rfl rfl
theorem wv_X3_menOf : Cond.selects (mi_X3_menOf).1.cls (mi_X3_menOf).1 (mi_X3_menOf).1 ∈ sm_Tg := sg_3 (i := 231) rfl rfl
theorem wm_X3_isOut : sm_mi mi_X3_isOut 2 := ⟨sg_3 (i := 206) rfl rfl, wini_3, rfl, ⟨wcl_3.1, wcl_3.2, by decide +kernel⟩, Nat.le_of_ble_eq_true rfl⟩
theorem wi_X3_isOut : Cond.instanceMethod (mi_X3_isOut).1 ∈ sm_Tg := sg_3 (i := 205) rfl rfl
theorem wv_X3_isOut : Cond.selects (mi_X3_isOut).1.cls (mi_X3_isOut).1 (mi_X3_isOut).1 ∈ sm_Tg := sg_P (i := 20) rfl rfl
theorem wm_X3_borne : sm_mi mi_X3_borne 0 := ⟨sg_3 (i := 236) rfl rfl, wini_3, rfl, ⟨wcl_3.1, wcl_3.2, by decide +kernel⟩, Nat.le_of_ble_eq_true rfl⟩
theorem wi_X3_borne : Cond.instanceMethod (mi_X3_borne).1 ∈ sm_Tg := sg_3 (i := 234) rfl rfl
theorem wv_X3_borne : Cond.selects (mi_X3_borne).1.cls (mi_X3_borne).1 (mi_X3_borne).1 ∈ sm_Tg := sg_3 (i := 235) rfl rfl
theorem wm_X3_balanceOf : sm_mi mi_X3_balanceOf 1 := ⟨sg_4 (i := 110) rfl rfl, wini_3, rfl, ⟨wcl_3.1, wcl_3.2, by decide +kernel⟩, Nat.le_of_ble_eq_true rfl⟩
theorem wi_X3_balanceOf : Cond.instanceMethod (mi_X3_balanceOf).1 ∈ sm_Tg := sg_4 (i := 108) rfl rfl
theorem wv_X3_balanceOf : Cond.selects (mi_X3_balanceOf).1.cls (mi_X3_balanceOf).1 (mi_X3_balanceOf).1 ∈ sm_Tg := sg_4 (i := 109) rfl rfl
theorem wm_X3_leadOf : sm_mi mi_X3_leadOf 1 := ⟨sg_2 (i := 48) rfl rfl, wini_3, rfl, ⟨wcl_3.1, wcl_3.2, by decide +kernel⟩, Nat.le_of_ble_eq_true rfl⟩
theorem wi_X3_leadOf : Cond.instanceMethod (mi_X3_leadOf).1 ∈ sm_Tg := sg_2 (i := 47) rfl rfl
theorem wv_X3_leadOf : Cond.selects (mi_X3_leadOf).1.cls (mi_X3_leadOf).1 (mi_X3_leadOf).1 ∈ sm_Tg := sg_P (i := 1) rfl rfl
theorem wm_X3_goals : sm_mi mi_X3_goals 1 := ⟨sg_3 (i := 210) rfl rfl, wini_3, rfl, ⟨wcl_3.1, wcl_3.2, by decide +kernel⟩, Nat.le_of_ble_eq_true rfl⟩
theorem wi_X3_goals : Cond.instanceMethod (mi_X3_goals).1 ∈ sm_Tg := sg_3 (i := 208) rfl rfl
theorem wv_X3_goals : Cond.selects (mi_X3_goals).1.cls (mi_X3_goals).1 (mi_X3_goals).1 ∈ sm_Tg := sg_3 (i := 209) rfl rfl
theorem wm_X3_along : sm_mi mi_X3_along 4 := ⟨sg_3 (i := 218) rfl rfl, wini_3, rfl, ⟨wcl_3.1, wcl_3.2, by decide +kernel⟩, Nat.le_of_ble_eq_true rfl⟩
theorem wi_X3_along : Cond.instanceMethod (mi_X3_along).1 ∈ sm_Tg := sg_3 (i := 217) rfl rfl
theorem wv_X3_along : Cond.selects (mi_X3_along).1.cls (mi_X3_along).1 (mi_X3_along).1 ∈ sm_Tg := sg_P (i := 21) rfl rfl
theorem wm_X3_moveCount : sm_mi mi_X3_moveCount 0 := ⟨sg_3 (i := 202) rfl rfl, wini_3, rfl, ⟨wcl_3.1, wcl_3.2, by decide +kernel⟩, Nat.le_of_ble_eq_true rfl⟩
theorem wi_X3_moveCount : Cond.instanceMethod (mi_X3_moveCount).1 ∈ sm_Tg := sg_3 (i := 200) rfl rfl
theorem wv_X3_moveCount : Cond.selects (mi_X3_moveCount).1.cls (mi_X3_moveCount).1 (mi_X3_moveCount).1 ∈ sm_Tg := sg_3 (i := 201) rfl rfl
theorem wm_X3_isOver : sm_mi mi_X3_isOver 0 := ⟨sg_3 (i := 198) rfl rfl, wini_3, rfl, ⟨wcl_3.1, wcl_3.2, by decide +kernel⟩, Nat.le_of_ble_eq_true rfl⟩
theorem wi_X3_isOver : Cond.instanceMethod (mi_X3_isOver).1 ∈ sm_Tg := sg_3 (i := 196) rfl rfl
theorem wv_X3_isOver : Cond.selects (mi_X3_isOver).1.cls (mi_X3_isOver).1 (mi_X3_isOver).1 ∈ sm_Tg := sg_3 (i := 197) rfl rfl
theorem wm_X3_moveAt : sm_mi mi_X3_moveAt 1 := ⟨sg_4 (i := 44) rfl rfl, wini_3, rfl, ⟨wcl_3.1, wcl_3.2, by decide +kernel⟩, Nat.le_of_ble_eq_true rfl⟩
theorem wi_X3_moveAt : Cond.instanceMethod (mi_X3_moveAt).1 ∈ sm_Tg := sg_4 (i := 42) rfl rfl
theorem wv_X3_moveAt : Cond.selects (mi_X3_moveAt).1.cls (mi_X3_moveAt).1 (mi_X3_moveAt).1 ∈ sm_Tg := sg_4 (i := 43) rfl rfl
theorem wm_X3_numberOf : sm_mi mi_X3_numberOf 1 := ⟨sg_4 (i := 146) rfl rfl, wini_3, rfl, ⟨wcl_3.1, wcl_3.2, by decide +kernel⟩, Nat.le_of_ble_eq_true rfl⟩
theorem wi_X3_numberOf : Cond.instanceMethod (mi_X3_numberOf).1 ∈ sm_Tg := sg_4 (i := 144) rfl rfl
theorem wv_X3_numberOf : Cond.selects (mi_X3_numberOf).1.cls (mi_X3_numberOf).1 (mi_X3_numberOf).1 ∈ sm_Tg := sg_4 (i := 145) rfl rfl
theorem wm_X3_bitAt : sm_mi mi_X3_bitAt 2 := ⟨sg_4 (i := 47) rfl rfl, wini_3, rfl, ⟨wcl_3.1, wcl_3.2, by decide +kernel⟩, Nat.le_of_ble_eq_true rfl⟩
theorem wt_X3_bitAt : Cond.static (mi_X3_bitAt).1 ∈ sm_Tg := sg_4 (i := 46) rfl rfl
theorem wm_X3_set : sm_mi mi_X3_set 2 := ⟨sg_2 (i := 44) rfl rfl, wini_3, rfl, ⟨wcl_3.1, wcl_3.2, by decide +kernel⟩, Nat.le_of_ble_eq_true rfl⟩
theorem wi_X3_set : Cond.instanceMethod (mi_X3_set).1 ∈ sm_Tg := sg_2 (i := 43) rfl rfl
theorem wv_X3_set : Cond.selects (mi_X3_set).1.cls (mi_X3_set).1 (mi_X3_set).1 ∈ sm_Tg := sg_P (i := 0) rfl rfl
theorem wm_X3_lift : sm_mi mi_X3_lift 2 := ⟨sg_4 (i := 80) rfl rfl, wini_3, rfl, ⟨wcl_3.1, wcl_3.2, by decide +kernel⟩, Nat.le_of_ble_eq_true rfl⟩
theorem wi_X3_lift : Cond.instanceMethod (mi_X3_lift).1 ∈ sm_Tg := sg_4 (i := 79) rfl rfl
theorem wv_X3_lift : Cond.selects (mi_X3_lift).1.cls (mi_X3_lift).1 (mi_X3_lift).1 ∈ sm_Tg := sg_P (i := 24) rfl rfl
theorem wm_X3_carry : sm_mi mi_X3_carry 2 := ⟨sg_4 (i := 76) rfl rfl, wini_3, rfl, ⟨wcl_3.1, wcl_3.2, by decide +kernel⟩, Nat.le_of_ble_eq_true rfl⟩
theorem wi_X3_carry : Cond.instanceMethod (mi_X3_carry).1 ∈ sm_Tg := sg_4 (i := 75) rfl rfl
theorem wv_X3_carry : Cond.selects (mi_X3_carry).1.cls (mi_X3_carry).1 (mi_X3_carry).1 ∈ sm_Tg := sg_P (i := 23) rfl rfl
theorem wm_X3_carryBack : sm_mi mi_X3_carryBack 3 := ⟨sg_4 (i := 134) rfl rfl, wini_3, rfl, ⟨wcl_3.1, wcl_3.2, by decide +kernel⟩, Nat.le_of_ble_eq_true rfl⟩
theorem wi_X3_carryBack : Cond.instanceMethod (mi_X3_carryBack).1 ∈ sm_Tg := sg_4 (i := 133) rfl rfl
theorem wv_X3_carryBack : Cond.selects (mi_X3_carryBack).1.cls (mi_X3_carryBack).1 (mi_X3_carryBack).1 ∈ sm_Tg := sg_P (i := 28) rfl rfl
theorem wm_X3_outlook : sm_mi mi_X3_outlook 2 := ⟨sg_4 (i := 119) rfl rfl, wini_3, rfl, ⟨wcl_3.1, wcl_3.2, by decide +kernel⟩, Nat.le_of_ble_eq_true rfl⟩
theorem wi_X3_outlook : Cond.instanceMethod (mi_X3_outlook).1 ∈ sm_Tg := sg_4 (i := 117) rfl rfl
theorem wv_X3_outlook : Cond.selects (mi_X3_outlook).1.cls (mi_X3_outlook).1 (mi_X3_outlook).1 ∈ sm_Tg := sg_4 (i := 118) rfl rfl
theorem wm_X3_outlookBehind : sm_mi mi_X3_outlookBehind 3 := ⟨sg_4 (i := 129) rfl rfl, wini_3, rfl, ⟨wcl_3.1, wcl_3.2, by decide +kernel⟩, Nat.le_of_ble_eq_true rfl⟩
theorem wi_X3_outlookBehind : Cond.instanceMethod (mi_X3_outlookBehind).1 ∈ sm_Tg := sg_4 (i := 128) rfl rfl
theorem wv_X3_outlookBehind : Cond.selects (mi_X3_outlookBehind).1.cls (mi_X3_outlookBehind).1 (mi_X3_outlookBehind).1 ∈ sm_Tg := sg_P (i := 27) rfl rfl
theorem wm_X3_dearestPrey : sm_mi mi_X3_dearestPrey 1 := ⟨sg_4 (i := 124) rfl rfl, wini_3, rfl, ⟨wcl_3.1, wcl_3.2, by decide +kernel⟩, Nat.le_of_ble_eq_true rfl⟩
theorem wi_X3_dearestPrey : Cond.instanceMethod (mi_X3_dearestPrey).1 ∈ sm_Tg := sg_4 (i := 123) rfl rfl
theorem wv_X3_dearestPrey : Cond.selects (mi_X3_dearestPrey).1.cls (mi_X3_dearestPrey).1 (mi_X3_dearestPrey).1 ∈ sm_Tg := sg_P (i := 26) rfl rfl
theorem wm_X3_depth : sm_mi mi_X3_depth 0 := ⟨sg_4 (i := 178) rfl rfl, wini_3, rfl, ⟨wcl_3.1, wcl_3.2, by decide +kernel⟩, Nat.le_of_ble_eq_true rfl⟩
theorem wi_X3_depth : Cond.instanceMethod (mi_X3_depth).1 ∈ sm_Tg := sg_4 (i := 176) rfl rfl
theorem wv_X3_depth : Cond.selects (mi_X3_depth).1.cls (mi_X3_depth).1 (mi_X3_depth).1 ∈ sm_Tg := sg_4 (i := 177) rfl rfl
theorem wm_X3_bestMove : sm_mi mi_X3_bestMove 1 := ⟨sg_4 (i := 142) rfl rfl, wini_3, rfl, ⟨wcl_3.1, wcl_3.2, by decide +kernel⟩, Nat.le_of_ble_eq_true rfl⟩
theorem wi_X3_bestMove : Cond.instanceMethod (mi_X3_bestMove).1 ∈ sm_Tg := sg_4 (i := 140) rfl rfl
theorem wv_X3_bestMove : Cond.selects (mi_X3_bestMove).1.cls (mi_X3_bestMove).1 (mi_X3_bestMove).1 ∈ sm_Tg := sg_4 (i := 141) rfl rfl
theorem wm_X3_threatens : sm_mi mi_X3_threatens 1 := ⟨sg_4 (i := 88) rfl rfl, wini_3, rfl, ⟨wcl_3.1, wcl_3.2, by decide +kernel⟩, Nat.le_of_ble_eq_true rfl⟩
theorem wi_X3_threatens : Cond.instanceMethod (mi_X3_threatens).1 ∈ sm_Tg := sg_4 (i := 87) rfl rfl
theorem wv_X3_threatens : Cond.selects (mi_X3_threatens).1.cls (mi_X3_threatens).1 (mi_X3_threatens).1 ∈ sm_Tg := sg_P (i := 25) rfl rfl
theorem wm_X3_forcedBy : sm_mi mi_X3_forcedBy 0 := ⟨sg_4 (i := 154) rfl rfl, wini_3, rfl, ⟨wcl_3.1, wcl_3.2, by decide +kernel⟩, Nat.le_of_ble_eq_true rfl⟩
theorem wi_X3_forcedBy : Cond.instanceMethod (mi_X3_forcedBy).1 ∈ sm_Tg := sg_4 (i := 152) rfl rfl
theorem wv_X3_forcedBy : Cond.selects (mi_X3_forcedBy).1.cls (mi_X3_forcedBy).1 (mi_X3_forcedBy).1 ∈ sm_Tg := sg_4 (i := 153) rfl rfl
theorem wm_X3_cornersBy : sm_mi mi_X3_cornersBy 2 := ⟨sg_4 (i := 158) rfl rfl, wini_3, rfl, ⟨wcl_3.1, wcl_3.2, by decide +kernel⟩, Nat.le_of_ble_eq_true rfl⟩
theorem wi_X3_cornersBy : Cond.instanceMethod (mi_X3_cornersBy).1 ∈ sm_Tg := sg_4 (i := 157) rfl rfl
theorem wv_X3_cornersBy : Cond.selects (mi_X3_cornersBy).1.cls (mi_X3_cornersBy).1 (mi_X3_cornersBy).1 ∈ sm_Tg := sg_P (i := 29) rfl rfl
theorem wm_X3_isCornered : sm_mi mi_X3_isCornered 1 := ⟨sg_4 (i := 162) rfl rfl, wini_3, rfl, ⟨wcl_3.1, wcl_3.2, by decide +kernel⟩, Nat.le_of_ble_eq_true rfl⟩
theorem wi_X3_isCornered : Cond.instanceMethod (mi_X3_isCornered).1 ∈ sm_Tg := sg_4 (i := 161) rfl rfl
theorem wv_X3_isCornered : Cond.selects (mi_X3_isCornered).1.cls (mi_X3_isCornered).1 (mi_X3_isCornered).1 ∈ sm_Tg := sg_P (i := 30) rfl rfl
theorem wm_X3_waysTo : sm_mi mi_X3_waysTo 3 := ⟨sg_5 (i := 65) rfl rfl, wini_3, rfl, ⟨wcl_3.1, wcl_3.2, by decide +kernel⟩, Nat.le_of_ble_eq_true rfl⟩
theorem wi_X3_waysTo : Cond.instanceMethod (mi_X3_waysTo).1 ∈ sm_Tg := sg_5 (i := 63) rfl rfl
theorem wv_X3_waysTo : Cond.selects (mi_X3_waysTo).1.cls (mi_X3_waysTo).1 (mi_X3_waysTo).1 ∈ sm_Tg := sg_5 (i := 64) rfl rfl
theorem wm_X3_unlike : sm_mi mi_X3_unlike 1 := ⟨sg_5 (i := 69) rfl rfl, wini_3, rfl, ⟨wcl_3.1, wcl_3.2, by decide +kernel⟩, Nat.le_of_ble_eq_true rfl⟩
theorem wi_X3_unlike : Cond.instanceMethod (mi_X3_unlike).1 ∈ sm_Tg := sg_5 (i := 68) rfl rfl
theorem wv_X3_unlike : Cond.selects (mi_X3_unlike).1.cls (mi_X3_unlike).1 (mi_X3_unlike).1 ∈ sm_Tg := sg_P (i := 40) rfl rfl
theorem wm_X3_passDays : sm_mi mi_X3_passDays 1 := ⟨sg_4 (i := 174) rfl rfl, wini_3, rfl, ⟨wcl_3.1, wcl_3.2, by decide +kernel⟩, Nat.le_of_ble_eq_true rfl⟩
theorem wi_X3_passDays : Cond.instanceMethod (mi_X3_passDays).1 ∈ sm_Tg := sg_4 (i := 172) rfl rfl
theorem wv_X3_passDays : Cond.selects (mi_X3_passDays).1.cls (mi_X3_passDays).1 (mi_X3_passDays).1 ∈ sm_Tg := sg_4 (i := 173) rfl rfl
theorem wm_X3_passDay : sm_mi mi_X3_passDay 1 := ⟨sg_4 (i := 183) rfl rfl, wini_3, rfl, ⟨wcl_3.1, wcl_3.2, by decide +kernel⟩, Nat.le_of_ble_eq_true rfl⟩
theorem wi_X3_passDay : Cond.instanceMethod (mi_X3_passDay).1 ∈ sm_Tg := sg_4 (i := 181) rfl rfl
theorem wv_X3_passDay : Cond.selects (mi_X3_passDay).1.cls (mi_X3_passDay).1 (mi_X3_passDay).1 ∈ sm_Tg := sg_4 (i := 182) rfl rfl
theorem wm_X3_strike : sm_mi mi_X3_strike 1 := ⟨sg_4 (i := 70) rfl rfl, wini_3, rfl, ⟨wcl_3.1, wcl_3.2, by decide +kernel⟩, Nat.le_of_ble_eq_true rfl⟩
theorem wi_X3_strike : Cond.instanceMethod (mi_X3_strike).1 ∈ sm_Tg := sg_4 (i := 68) rfl rfl
theorem wv_X3_strike : Cond.selects (mi_X3_strike).1.cls (mi_X3_strike).1 (mi_X3_strike).1 ∈ sm_Tg := sg_4 (i := 69) rfl rfl
theorem wm_X3_harmTo : sm_mi mi_X3_harmTo 1 := ⟨sg_4 (i := 192) rfl rfl, wini_3, rfl, ⟨wcl_3.1, wcl_3.2, by decide +kernel⟩, Nat.le_of_ble_eq_true rfl⟩
theorem wi_X3_harmTo : Cond.instanceMethod (mi_X3_harmTo).1 ∈ sm_Tg := sg_4 (i := 190) rfl rfl
theorem wv_X3_harmTo : Cond.selects (mi_X3_harmTo).1.cls (mi_X3_harmTo).1 (mi_X3_harmTo).1 ∈ sm_Tg := sg_4 (i := 191) rfl rfl
theorem wm_X3_wither : sm_mi mi_X3_wither 0 := ⟨sg_4 (i := 188) rfl rfl, wini_3, rfl, ⟨wcl_3.1, wcl_3.2, by decide +kernel⟩, Nat.le_of_ble_eq_true rfl⟩
theorem wi_X3_wither : Cond.instanceMethod (mi_X3_wither).1 ∈ sm_Tg := sg_4 (i := 186) rfl rfl
theorem wv_X3_wither : Cond.selects (mi_X3_wither).1.cls (mi_X3_wither).1 (mi_X3_wither).1 ∈ sm_Tg := sg_4 (i := 187) rfl rfl
theorem wm_X3_turn : sm_mi mi_X3_turn 0 := ⟨sg_4 (i := 237) rfl rfl, wini_3, rfl, ⟨wcl_3.1, wcl_3.2, by decide +kernel⟩, Nat.le_of_ble_eq_true rfl⟩
theorem wi_X3_turn : Cond.instanceMethod (mi_X3_turn).1 ∈ sm_Tg := sg_4 (i := 235) rfl rfl
theorem wv_X3_turn : Cond.selects (mi_X3_turn).1.cls (mi_X3_turn).1 (mi_X3_turn).1 ∈ sm_Tg := sg_4 (i := 236) rfl rfl
theorem wm_X3_answerOf : sm_mi mi_X3_answerOf 2 := ⟨sg_5 (i := 152) rfl rfl, wini_3, rfl, ⟨wcl_3.1, wcl_3.2, by decide +kernel⟩, Nat.le_of_ble_eq_true rfl⟩
theorem wi_X3_answerOf : Cond.instanceMethod (mi_X3_answerOf).1 ∈ sm_Tg := sg_5 (i := 150) rfl rfl
theorem wv_X3_answerOf : Cond.selects (mi_X3_answerOf).1.cls (mi_X3_answerOf).1 (mi_X3_answerOf).1 ∈ sm_Tg := sg_5 (i := 151) rfl rfl
theorem wm_X4_init : sm_mi mi_X4_init 0 := ⟨sg_1 (i := 115) rfl rfl, wini_4, rfl, ⟨wcl_4.1, wcl_4.2, by decide +kernel⟩, Nat.le_of_ble_eq_true rfl⟩
theorem wi_X4_init : Cond.instanceMethod (mi_X4_init).1 ∈ sm_Tg := sg_1 (i := 114) rfl rfl
theorem wm_X4_empty : sm_mi mi_X4_empty 0 := ⟨sg_2 (i := 215) rfl rfl, wini_4, rfl, ⟨wcl_4.1, wcl_4.2, by decide +kernel⟩, Nat.le_of_ble_eq_true rfl⟩
theorem wi_X4_empty : Cond.instanceMethod (mi_X4_empty).1 ∈ sm_Tg := sg_2 (i := 213) rfl rfl
theorem wv_X4_empty : Cond.selects (mi_X4_empty).1.cls (mi_X4_empty).1 (mi_X4_empty).1 ∈ sm_Tg := sg_2 (i := 214) rfl rfl
theorem wm_X4_isPlace : sm_mi mi_X4_isPlace 2 := ⟨sg_4 (i := 36) rfl rfl, wini_4, rfl, ⟨wcl_4.1, wcl_4.2, by decide +kernel⟩, Nat.le_of_ble_eq_true rfl⟩
theorem wi_X4_isPlace : Cond.instanceMethod (mi_X4_isPlace).1 ∈ sm_Tg := sg_4 (i := 34) rfl rfl
theorem wv_X4_isPlace : Cond.selects (mi_X4_isPlace).1.cls (mi_X4_isPlace).1 (mi_X4_isPlace).1 ∈ sm_Tg := sg_4 (i := 35) rfl rfl
theorem wm_X4_isHeld : sm_mi mi_X4_isHeld 1 := ⟨sg_3 (i := 113) rfl rfl, wini_4, rfl, ⟨wcl_4.1, wcl_4.2, by decide +kernel⟩, Nat.le_of_ble_eq_true rfl⟩
theorem wi_X4_isHeld : Cond.instanceMethod (mi_X4_isHeld).1 ∈ sm_Tg := sg_3 (i := 111) rfl rfl
theorem wv_X4_isHeld : Cond.selects (mi_X4_isHeld).1.cls (mi_X4_isHeld).1 (mi_X4_isHeld).1 ∈ sm_Tg := sg_3 (i := 112) rfl rfl
theorem wm_X4_slotOf : sm_mi mi_X4_slotOf 2 := ⟨sg_3 (i := 97) rfl rfl, wini_4, rfl, ⟨wcl_4.1, wcl_4.2, by decide +kernel⟩, Nat.le_of_ble_eq_true rfl⟩
theorem wi_X4_slotOf : Cond.instanceMethod (mi_X4_slotOf).1 ∈ sm_Tg := sg_3 (i := 95) rfl rfl
theorem wv_X4_slotOf : Cond.selects (mi_X4_slotOf).1.cls (mi_X4_slotOf).1 (mi_X4_slotOf).1 ∈ sm_Tg := sg_3 (i := 96) rfl rfl
theorem wm_X4_worthOf : sm_mi mi_X4_worthOf 1 := ⟨sg_4 (i := 84) rfl rfl, wini_4, rfl, ⟨wcl_4.1, wcl_4.2, by decide +kernel⟩, Nat.le_of_ble_eq_true rfl⟩
theorem wi_X4_worthOf : Cond.instanceMethod (mi_X4_worthOf).1 ∈ sm_Tg := sg_4 (i := 82) rfl rfl
theorem wv_X4_worthOf : Cond.selects (mi_X4_worthOf).1.cls (mi_X4_worthOf).1 (mi_X4_worthOf).1 ∈ sm_Tg := sg_4 (i := 83) rfl rfl
theorem wm_X4_isCrown : sm_mi mi_X4_isCrown 1 := ⟨sg_2 (i := 52) rfl rfl, wini_4, rfl, ⟨wcl_4.1, wcl_4.2, by decide +kernel⟩, Nat.le_of_ble_eq_true rfl⟩
theorem wi_X4_isCrown : Cond.instanceMethod (mi_X4_isCrown).1 ∈ sm_Tg := sg_2 (i := 50) rfl rfl
theorem wv_X4_isCrown : Cond.selects (mi_X4_isCrown).1.cls (mi_X4_isCrown).1 (mi_X4_isCrown).1 ∈ sm_Tg := sg_2 (i := 51) rfl rfl
theorem wm_X5_init : sm_mi mi_X5_init 1 := ⟨sg_1 (i := 49) rfl rfl, wini_5, rfl, ⟨wcl_5.1, wcl_5.2, by decide +kernel⟩, Nat.le_of_ble_eq_true rfl⟩
theorem wi_X5_init : Cond.instanceMethod (mi_X5_init).1 ∈ sm_Tg := sg_1 (i := 48) rfl rfl
theorem wm_X5_open : sm_mi mi_X5_open 0 := ⟨sg_2 (i := 220) rfl rfl, wini_5, rfl, ⟨wcl_5.1, wcl_5.2, by decide +kernel⟩, Nat.le_of_ble_eq_true rfl⟩
theorem wi_X5_open : Cond.instanceMethod (mi_X5_open).1 ∈ sm_Tg := sg_2 (i := 218) rfl rfl
theorem wv_X5_open : Cond.selects (mi_X5_open).1.cls (mi_X5_open).1 (mi_X5_open).1 ∈ sm_Tg := sg_2 (i := 219) rfl rfl
theorem wm_X5_fail : sm_mi mi_X5_fail 2 := ⟨sg_3 (i := 51) rfl rfl, wini_5, rfl, ⟨wcl_5.1, wcl_5.2, by decide +kernel⟩, Nat.le_of_ble_eq_true rfl⟩
theorem wi_X5_fail : Cond.instanceMethod (mi_X5_fail).1 ∈ sm_Tg := sg_3 (i := 49) rfl rfl
theorem wv_X5_fail : Cond.selects (mi_X5_fail).1.cls (mi_X5_fail).1 (mi_X5_fail).1 ∈ sm_Tg := sg_3 (i := 50) rfl rfl
theorem wm_X5_failForm : sm_mi mi_X5_failForm 0 := ⟨sg_3 (i := 67) rfl rfl, wini_5, rfl, ⟨wcl_5.1, wcl_5.2, by decide +kernel⟩, Nat.le_of_ble_eq_true rfl⟩
theorem wi_X5_failForm : Cond.instanceMethod (mi_X5_failForm).1 ∈ sm_Tg := sg_3 (i := 65) rfl rfl
theorem wv_X5_failForm : Cond.selects (mi_X5_failForm).1.cls (mi_X5_failForm).1 (mi_X5_failForm).1 ∈ sm_Tg := sg_3 (i := 66) rfl rfl
theorem wm_X5_step : sm_mi mi_X5_step 0 := ⟨sg_2 (i := 224) rfl rfl, wini_5, rfl, ⟨wcl_5.1, wcl_5.2, by decide +kernel⟩, Nat.le_of_ble_eq_true rfl⟩
theorem wi_X5_step : Cond.instanceMethod (mi_X5_step).1 ∈ sm_Tg := sg_2 (i := 222) rfl rfl
theorem wv_X5_step : Cond.selects (mi_X5_step).1.cls (mi_X5_step).1 (mi_X5_step).1 ∈ sm_Tg := sg_2 (i := 223) rfl rfl
theorem wm_X5_numberOfWord : sm_mi mi_X5_numberOfWord 0 := ⟨sg_2 (i := 238) rfl rfl, wini_5, rfl, ⟨wcl_5.1, wcl_5.2, by decide +kernel⟩, Nat.le_of_ble_eq_true rfl⟩
theorem wi_X5_numberOfWord : Cond.instanceMethod (mi_X5_numberOfWord).1 ∈ sm_Tg := sg_2 (i := 237) rfl rfl
theorem wv_X5_numberOfWord : Cond.selects (mi_X5_numberOfWord).1.cls (mi_X5_numberOfWord).1 (mi_X5_numberOfWord).1 ∈ sm_Tg := sg_P (i := 3) rfl rfl
theorem wm_X5_isWord : sm_mi mi_X5_isWord 1 := ⟨sg_3 (i := 63) rfl rfl, wini_5, rfl, ⟨wcl_5.1, wcl_5.2, by decide +kernel⟩, Nat.le_of_ble_eq_true rfl⟩
theorem wi_X5_isWord : Cond.instanceMethod (mi_X5_isWord).1 ∈ sm_Tg := sg_3 (i := 61) rfl rfl
theorem wv_X5_isWord : Cond.selects (mi_X5_isWord).1.cls (mi_X5_isWord).1 (mi_X5_isWord).1 ∈ sm_Tg := sg_3 (i := 62) rfl rfl
theorem wm_X5_isSign : sm_mi mi_X5_isSign 1 := ⟨sg_3 (i := 146) rfl rfl, wini_5, rfl, ⟨wcl_5.1, wcl_5.2, by decide +kernel⟩, Nat.le_of_ble_eq_true rfl⟩
theorem wi_X5_isSign : Cond.instanceMethod (mi_X5_isSign).1 ∈ sm_Tg := sg_3 (i := 144) rfl rfl
theorem wv_X5_isSign : Cond.selects (mi_X5_isSign).1.cls (mi_X5_isSign).1 (mi_X5_isSign).1 ∈ sm_Tg := sg_3 (i := 145) rfl rfl
theorem wm_X5_takeWord : sm_mi mi_X5_takeWord 1 := ⟨sg_3 (i := 59) rfl rfl, wini_5, rfl, ⟨wcl_5.1, wcl_5.2, by decide +kernel⟩, Nat.le_of_ble_eq_true rfl⟩
theorem wi_X5_takeWord : Cond.instanceMethod (mi_X5_takeWord).1 ∈ sm_Tg := sg_3 (i := 57) rfl rfl
theorem wv_X5_takeWord : Cond.selects (mi_X5_takeWord).1.cls (mi_X5_takeWord).1 (mi_X5_takeWord).1 ∈ sm_Tg := sg_3 (i := 58) rfl rfl
theorem wm_X5_takeSign : sm_mi mi_X5_takeSign 1 := ⟨sg_3 (i := 157) rfl rfl, wini_5, rfl, ⟨wcl_5.1, wcl_5.2, by decide +kernel⟩, Nat.le_of_ble_eq_true rfl⟩
theorem wi_X5_takeSign : Cond.instanceMethod (mi_X5_takeSign).1 ∈ sm_Tg := sg_3 (i := 155) rfl rfl
theorem wv_X5_takeSign : Cond.selects (mi_X5_takeSign).1.cls (mi_X5_takeSign).1 (mi_X5_takeSign).1 ∈ sm_Tg := sg_3 (i := 156) rfl rfl
theorem wm_X5_takeNumber : sm_mi mi_X5_takeNumber 2 := ⟨sg_3 (i := 72) rfl rfl, wini_5, rfl, ⟨wcl_5.1, wcl_5.2, by decide +kernel⟩, Nat.le_of_ble_eq_true rfl⟩
theorem wi_X5_takeNumber : Cond.instanceMethod (mi_X5_takeNumber).1 ∈ sm_Tg := sg_3 (i := 70) rfl rfl
theorem wv_X5_takeNumber : Cond.selects (mi_X5_takeNumber).1.cls (mi_X5_takeNumber).1 (mi_X5_takeNumber).1 ∈ sm_Tg := sg_3 (i := 71) rfl rfl
theorem wm_X5_nameAtHand : sm_mi mi_X5_nameAtHand 0 := ⟨sg_3 (i := 93) rfl rfl, wini_5, rfl, ⟨wcl_5.1, wcl_5.2, by decide +kernel⟩, Nat.le_of_ble_eq_true rfl⟩
theorem wi_X5_nameAtHand : Cond.instanceMethod (mi_X5_nameAtHand).1 ∈ sm_Tg := sg_3 (i := 91) rfl rfl
theorem wv_X5_nameAtHand : Cond.selects (mi_X5_nameAtHand).1.cls (mi_X5_nameAtHand).1 (mi_X5_nameAtHand).1 ∈ sm_Tg := sg_3 (i := 92) rfl rfl
theorem wm_X5_isBlank : sm_mi mi_X5_isBlank 1 := ⟨sg_2 (i := 231) rfl rfl, wini_5, rfl, ⟨wcl_5.1, wcl_5.2, by decide +kernel⟩, Nat.le_of_ble_eq_true rfl⟩
theorem wt_X5_isBlank : Cond.static (mi_X5_isBlank).1 ∈ sm_Tg := sg_2 (i := 230) rfl rfl
theorem wm_X5_sortOf : sm_mi mi_X5_sortOf 1 := ⟨sg_2 (i := 234) rfl rfl, wini_5, rfl, ⟨wcl_5.1, wcl_5.2, by decide +kernel⟩, Nat.le_of_ble_eq_true rfl⟩
theorem wt_X5_sortOf : Cond.static (mi_X5_sortOf).1 ∈ sm_Tg := sg_2 (i := 233) rfl rfl
theorem wm_X6_init : sm_mi mi_X6_init 0 := ⟨sg_2 (i := 17) rfl rfl, wini_6, rfl, ⟨wcl_6.1, wcl_6.2, by decide +kernel⟩, Nat.le_of_ble_eq_true rfl⟩
theorem wi_X6_init : Cond.instanceMethod (mi_X6_init).1 ∈ sm_Tg := sg_2 (i := 16) rfl rfl
theorem wm_X6_reckon : sm_mi mi_X6_reckon 1 := ⟨sg_4 (i := 203) rfl rfl, wini_6, rfl, ⟨wcl_6.1, wcl_6.2, by decide +kernel⟩, Nat.le_of_ble_eq_true rfl⟩
theorem wi_X6_reckon : Cond.instanceMethod (mi_X6_reckon).1 ∈ sm_Tg := sg_4 (i := 201) rfl rfl
theorem wv_X6_reckon : Cond.selects (mi_X6_reckon).1.cls (mi_X6_reckon).1 (mi_X6_reckon).1 ∈ sm_Tg := sg_4 (i := 202) rfl rfl
theorem wm_X6_joined : sm_mi mi_X6_joined 3 := ⟨sg_4 (i := 218) rfl rfl, wini_6, rfl, ⟨wcl_6.1, wcl_6.2, by decide +kernel⟩, Nat.le_of_ble_eq_true rfl⟩
theorem wt_X6_joined : Cond.static (mi_X6_joined).1 ∈ sm_Tg := sg_4 (i := 217) rfl rfl
theorem wm_X6_fact : sm_mi mi_X6_fact 1 := ⟨sg_4 (i := 211) rfl rfl, wini_6, rfl, ⟨wcl_6.1, wcl_6.2, by decide +kernel⟩, Nat.le_of_ble_eq_true rfl⟩
theorem wi_X6_fact : Cond.instanceMethod (mi_X6_fact).1 ∈ sm_Tg := sg_4 (i := 210) rfl rfl
theorem wv_X6_fact : Cond.selects (mi_X6_fact).1.cls (mi_X6_fact).1 (mi_X6_fact).1 ∈ sm_Tg := sg_P (i := 33) rfl rfl
theorem wm_X6_push : sm_mi mi_X6_push 1 := ⟨sg_4 (i := 207) rfl rfl, wini_6, rfl, ⟨wcl_6.1, wcl_6.2, by decide +kernel⟩, Nat.le_of_ble_eq_true rfl⟩
theorem wi_X6_push : Cond.instanceMethod (mi_X6_push).1 ∈ sm_Tg := sg_4 (i := 206) rfl rfl
theorem wv_X6_push : Cond.selects (mi_X6_push).1.cls (mi_X6_push).1 (mi_X6_push).1 ∈ sm_Tg := sg_P (i := 32) rfl rfl
theorem wm_X6_pop : sm_mi mi_X6_pop 0 := ⟨sg_4 (i := 215) rfl rfl, wini_6, rfl, ⟨wcl_6.1, wcl_6.2, by decide +kernel⟩, Nat.le_of_ble_eq_true rfl⟩
theorem wi_X6_pop : Cond.instanceMethod (mi_X6_pop).1 ∈ sm_Tg := sg_4 (i := 214) rfl rfl
theorem wv_X6_pop : Cond.selects (mi_X6_pop).1.cls (mi_X6_pop).1 (mi_X6_pop).1 ∈ sm_Tg := sg_P (i := 34) rfl rfl
theorem wm_X7_init : sm_mi mi_X7_init 0 := ⟨sg_1 (i := 32) rfl rfl, wini_7, rfl, ⟨wcl_7.1, wcl_7.2, by decide +kernel⟩, Nat.le_of_ble_eq_true rfl⟩
theorem wi_X7_init : Cond.instanceMethod (mi_X7_init).1 ∈ sm_Tg := sg_1 (i := 31) rfl rfl
theorem wm_X7_add : sm_mi mi_X7_add 1 := ⟨sg_2 (i := 199) rfl rfl, wini_7, rfl, ⟨wcl_7.1, wcl_7.2, by decide +kernel⟩, Nat.le_of_ble_eq_true rfl⟩
theorem wi_X7_add : Cond.instanceMethod (mi_X7_add).1 ∈ sm_Tg := sg_2 (i := 197) rfl rfl
theorem wv_X7_add : Cond.selects (mi_X7_add).1.cls (mi_X7_add).1 (mi_X7_add).1 ∈ sm_Tg := sg_2 (i := 198) rfl rfl
theorem wm_X7_byteAt : sm_mi mi_X7_byteAt 1 := ⟨sg_2 (i := 228) rfl rfl, wini_7, rfl, ⟨wcl_7.1, wcl_7.2, by decide +kernel⟩, Nat.le_of_ble_eq_true rfl⟩
theorem wi_X7_byteAt : Cond.instanceMethod (mi_X7_byteAt).1 ∈ sm_Tg := sg_2 (i := 226) rfl rfl
theorem wv_X7_byteAt : Cond.selects (mi_X7_byteAt).1.cls (mi_X7_byteAt).1 (mi_X7_byteAt).1 ∈ sm_Tg := sg_2 (i := 227) rfl rfl
theorem wm_X7_pairAt : sm_mi mi_X7_pairAt 1 := ⟨sg_5 (i := 44) rfl rfl, wini_7, rfl, ⟨wcl_7.1, wcl_7.2, by decide +kernel⟩, Nat.le_of_ble_eq_true rfl⟩
theorem wi_X7_pairAt : Cond.instanceMethod (mi_X7_pairAt).1 ∈ sm_Tg := sg_5 (i := 42) rfl rfl
theorem wv_X7_pairAt : Cond.selects (mi_X7_pairAt).1.cls (mi_X7_pairAt).1 (mi_X7_pairAt).1 ∈ sm_Tg := sg_5 (i := 43) rfl rfl
theorem wm_X8_init : sm_mi mi_X8_init 1 := ⟨sg_1 (i := 86) rfl rfl, wini_8, rfl, ⟨wcl_8.1, wcl_8.2, by decide +kernel⟩, Nat.le_of_ble_eq_true rfl⟩
theorem wi_X8_init : Cond.instanceMethod (mi_X8_init).1 ∈ sm_Tg := sg_1 (i := 85) rfl rfl
theorem wm_X8_tell : sm_mi mi_X8_tell 1 := ⟨sg_2 (i := 211) rfl rfl, wini_8, rfl, ⟨wcl_8.1, wcl_8.2, by decide +kernel⟩, Nat.le_of_ble_eq_true rfl⟩
theorem wi_X8_tell : Cond.instanceMethod (mi_X8_tell).1 ∈ sm_Tg := sg_2 (i := 209) rfl rfl
theorem wv_X8_tell : Cond.selects (mi_X8_tell).1.cls (mi_X8_tell).1 (mi_X8_tell).1 ∈ sm_Tg := sg_2 (i := 210) rfl rfl
theorem wm_X8_size : sm_mi mi_X8_size 1 := ⟨sg_3 (i := 55) rfl rfl, wini_8, rfl, ⟨wcl_8.1, wcl_8.2, by decide +kernel⟩, Nat.le_of_ble_eq_true rfl⟩
theorem wi_X8_size : Cond.instanceMethod (mi_X8_size).1 ∈ sm_Tg := sg_3 (i := 54) rfl rfl
theorem wv_X8_size : Cond.selects (mi_X8_size).1.cls (mi_X8_size).1 (mi_X8_size).1 ∈ sm_Tg := sg_P (i := 4) rfl rfl
theorem wm_X8_statement : sm_mi mi_X8_statement 1 := ⟨sg_3 (i := 76) rfl rfl, wini_8, rfl, ⟨wcl_8.1, wcl_8.2, by decide +kernel⟩, Nat.le_of_ble_eq_true rfl⟩
theorem wi_X8_statement : Cond.instanceMethod (mi_X8_statement).1 ∈ sm_Tg := sg_3 (i := 75) rfl rfl
theorem wv_X8_statement : Cond.selects (mi_X8_statement).1.cls (mi_X8_statement).1 (mi_X8_statement).1 ∈ sm_Tg := sg_P (i := 5) rfl rfl
theorem wm_X8_begins : sm_mi mi_X8_begins 2 := ⟨sg_3 (i := 84) rfl rfl, wini_8, rfl, ⟨wcl_8.1, wcl_8.2, by decide +kernel⟩, Nat.le_of_ble_eq_true rfl⟩
theorem wi_X8_begins : Cond.instanceMethod (mi_X8_begins).1 ∈ sm_Tg := sg_3 (i := 83) rfl rfl
theorem wv_X8_begins : Cond.selects (mi_X8_begins).1.cls (mi_X8_begins).1 (mi_X8_begins).1 ∈ sm_Tg := sg_P (i := 7) rfl rfl
theorem wm_X8_newKind : sm_mi mi_X8_newKind 1 := ⟨sg_3 (i := 80) rfl rfl, wini_8, rfl, ⟨wcl_8.1, wcl_8.2, by decide +kernel⟩, Nat.le_of_ble_eq_true rfl⟩
theorem wi_X8_newKind : Cond.instanceMethod (mi_X8_newKind).1 ∈ sm_Tg := sg_3 (i := 79) rfl rfl
theorem wv_X8_newKind : Cond.selects (mi_X8_newKind).1.cls (mi_X8_newKind).1 (mi_X8_newKind).1 ∈ sm_Tg := sg_P (i := 6) rfl rfl
theorem wm_X8_newMan : sm_mi mi_X8_newMan 1 := ⟨sg_3 (i := 102) rfl rfl, wini_8, rfl, ⟨wcl_8.1, wcl_8.2, by decide +kernel⟩, Nat.le_of_ble_eq_true rfl⟩
theorem wi_X8_newMan : Cond.instanceMethod (mi_X8_newMan).1 ∈ sm_Tg := sg_3 (i := 101) rfl rfl
theorem wv_X8_newMan : Cond.selects (mi_X8_newMan).1.cls (mi_X8_newMan).1 (mi_X8_newMan).1 ∈ sm_Tg := sg_P (i := 9) rfl rfl
theorem wm_X8_newField : sm_mi mi_X8_newField 1 := ⟨sg_3 (i := 117) rfl rfl, wini_8, rfl, ⟨wcl_8.1, wcl_8.2, by decide +kernel⟩, Nat.le_of_ble_eq_true rfl⟩
theorem wi_X8_newField : Cond.instanceMethod (mi_X8_newField).1 ∈ sm_Tg := sg_3 (i := 116) rfl rfl
theorem wv_X8_newField : Cond.selects (mi_X8_newField).1.cls (mi_X8_newField).1 (mi_X8_newField).1 ∈ sm_Tg := sg_P (i := 11) rfl rfl
theorem wm_X8_newName : sm_mi mi_X8_newName 2 := ⟨sg_3 (i := 89) rfl rfl, wini_8, rfl, ⟨wcl_8.1, wcl_8.2, by decide +kernel⟩, Nat.le_of_ble_eq_true rfl⟩
theorem wi_X8_newName : Cond.instanceMethod (mi_X8_newName).1 ∈ sm_Tg := sg_3 (i := 88) rfl rfl
theorem wv_X8_newName : Cond.selects (mi_X8_newName).1.cls (mi_X8_newName).1 (mi_X8_newName).1 ∈ sm_Tg := sg_P (i := 8) rfl rfl
theorem wm_X8_takeKind : sm_mi mi_X8_takeKind 1 := ⟨sg_3 (i := 106) rfl rfl, wini_8, rfl, ⟨wcl_8.1, wcl_8.2, by decide +kernel⟩, Nat.le_of_ble_eq_true rfl⟩
theorem wi_X8_takeKind : Cond.instanceMethod (mi_X8_takeKind).1 ∈ sm_Tg := sg_3 (i := 105) rfl rfl
theorem wv_X8_takeKind : Cond.selects (mi_X8_takeKind).1.cls (mi_X8_takeKind).1 (mi_X8_takeKind).1 ∈ sm_Tg := sg_P (i := 10) rfl rfl
theorem wm_X8_question : sm_mi mi_X8_question 1 := ⟨sg_5 (i := 127) rfl rfl, wini_8, rfl, ⟨wcl_8.1, wcl_8.2, by decide +kernel⟩, Nat.le_of_ble_eq_true rfl⟩
theorem wi_X8_question : Cond.instanceMethod (mi_X8_question).1 ∈ sm_Tg := sg_5 (i := 125) rfl rfl
theorem wv_X8_question : Cond.selects (mi_X8_question).1.cls (mi_X8_question).1 (mi_X8_question).1 ∈ sm_Tg := sg_5 (i := 126) rfl rfl
theorem wm_X9_init : sm_mi mi_X9_init 0 := ⟨sg_1 (i := 24) rfl rfl, wini_9, rfl, ⟨wcl_9.1, wcl_9.2, by decide +kernel⟩, Nat.le_of_ble_eq_true rfl⟩
theorem wi_X9_init : Cond.instanceMethod (mi_X9_init).1 ∈ sm_Tg := sg_1 (i := 23) rfl rfl
theorem wm_X9_feed : sm_mi mi_X9_feed 5 := ⟨sg_2 (i := 191) rfl rfl, wini_9, rfl, ⟨wcl_9.1, wcl_9.2, by decide +kernel⟩, Nat.le_of_ble_eq_true rfl⟩
theorem wi_X9_feed : Cond.instanceMethod (mi_X9_feed).1 ∈ sm_Tg := sg_2 (i := 189) rfl rfl
theorem wv_X9_feed : Cond.selects (mi_X9_feed).1.cls (mi_X9_feed).1 (mi_X9_feed).1 ∈ sm_Tg := sg_2 (i := 190) rfl rfl
theorem wm_X9_end : sm_mi mi_X9_end 1 := ⟨sg_2 (i := 203) rfl rfl, wini_9, rfl, ⟨wcl_9.1, wcl_9.2, by decide +kernel⟩, Nat.le_of_ble_eq_true rfl⟩
theorem wi_X9_end : Cond.instanceMethod (mi_X9_end).1 ∈ sm_Tg := sg_2 (i := 201) rfl rfl
theorem wv_X9_end : Cond.selects (mi_X9_end).1.cls (mi_X9_end).1 (mi_X9_end).1 ∈ sm_Tg := sg_2 (i := 202) rfl rfl
theorem wm_X9_board : sm_mi mi_X9_board 0 := ⟨sg_2 (i := 207) rfl rfl, wini_9, rfl, ⟨wcl_9.1, wcl_9.2, by decide +kernel⟩, Nat.le_of_ble_eq_true rfl⟩
theorem wi_X9_board : Cond.instanceMethod (mi_X9_board).1 ∈ sm_Tg := sg_2 (i := 205) rfl rfl
theorem wv_X9_board : Cond.selects (mi_X9_board).1.cls (mi_X9_board).1 (mi_X9_board).1 ∈ sm_Tg := sg_2 (i := 206) rfl rfl
theorem wm_X9_fault : sm_mi mi_X9_fault 1 := ⟨sg_3 (i := 186) rfl rfl, wini_9, rfl, ⟨wcl_9.1, wcl_9.2, by decide +kernel⟩, Nat.le_of_ble_eq_true rfl⟩
theorem wi_X9_fault : Cond.instanceMethod (mi_X9_fault).1 ∈ sm_Tg := sg_3 (i := 184) rfl rfl
theorem wv_X9_fault : Cond.selects (mi_X9_fault).1.cls (mi_X9_fault).1 (mi_X9_fault).1 ∈ sm_Tg := sg_3 (i := 185) rfl rfl
theorem wm_X9_has : sm_mi mi_X9_has 1 := ⟨sg_3 (i := 190) rfl rfl, wini_9, rfl, ⟨wcl_9.1, wcl_9.2, by decide +kernel⟩, Nat.le_of_ble_eq_true rfl⟩
theorem wi_X9_has : Cond.instanceMethod (mi_X9_has).1 ∈ sm_Tg := sg_3 (i := 188) rfl rfl
theorem wv_X9_has : Cond.selects (mi_X9_has).1.cls (mi_X9_has).1 (mi_X9_has).1 ∈ sm_Tg := sg_3 (i := 189) rfl rfl
theorem wm_X9_letter : sm_mi mi_X9_letter 3 := ⟨sg_4 (i := 7) rfl rfl, wini_9, rfl, ⟨wcl_9.1, wcl_9.2, by decide +kernel⟩, Nat.le_of_ble_eq_true rfl⟩
theorem wi_X9_letter : Cond.instanceMethod (mi_X9_letter).1 ∈ sm_Tg := sg_4 (i := 5) rfl rfl
theorem wv_X9_letter : Cond.selects (mi_X9_letter).1.cls (mi_X9_letter).1 (mi_X9_letter).1 ∈ sm_Tg := sg_4 (i := 6) rfl rfl
theorem wm_X9_kind : sm_mi mi_X9_kind 2 := ⟨sg_4 (i := 14) rfl rfl, wini_9, rfl, ⟨wcl_9.1, wcl_9.2, by decide +kernel⟩, Nat.le_of_ble_eq_true rfl⟩
theorem wi_X9_kind : Cond.instanceMethod (mi_X9_kind).1 ∈ sm_Tg := sg_4 (i := 12) rfl rfl
theorem wv_X9_kind : Cond.selects (mi_X9_kind).1.cls (mi_X9_kind).1 (mi_X9_kind).1 ∈ sm_Tg := sg_4 (i := 13) rfl rfl
theorem wm_X9_man : sm_mi mi_X9_man 2 := ⟨sg_4 (i := 18) rfl rfl, wini_9, rfl, ⟨wcl_9.1, wcl_9.2, by decide +kernel⟩, Nat.le_of_ble_eq_true rfl⟩
theorem wi_X9_man : Cond.instanceMethod (mi_X9_man).1 ∈ sm_Tg := sg_4 (i := 16) rfl rfl
theorem wv_X9_man : Cond.selects (mi_X9_man).1.cls (mi_X9_man).1 (mi_X9_man).1 ∈ sm_Tg := sg_4 (i := 17) rfl rfl
theorem wm_X9_field : sm_mi mi_X9_field 2 := ⟨sg_4 (i := 24) rfl rfl, wini_9, rfl, ⟨wcl_9.1, wcl_9.2, by decide +kernel⟩, Nat.le_of_ble_eq_true rfl⟩
theorem wi_X9_field : Cond.instanceMethod (mi_X9_field).1 ∈ sm_Tg := sg_4 (i := 22) rfl rfl
theorem wv_X9_field : Cond.selects (mi_X9_field).1.cls (mi_X9_field).1 (mi_X9_field).1 ∈ sm_Tg := sg_4 (i := 23) rfl rfl
theorem wm_X9_at : sm_mi mi_X9_at 2 := ⟨sg_4 (i := 32) rfl rfl, wini_9, rfl, ⟨wcl_9.1, wcl_9.2, by decide +kernel⟩, Nat.le_of_ble_eq_true rfl⟩
theorem wi_X9_at : Cond.instanceMethod (mi_X9_at).1 ∈ sm_Tg := sg_4 (i := 30) rfl rfl
theorem wv_X9_at : Cond.selects (mi_X9_at).1.cls (mi_X9_at).1 (mi_X9_at).1 ∈ sm_Tg := sg_4 (i := 31) rfl rfl
theorem wm_X9_option : sm_mi mi_X9_option 2 := ⟨sg_4 (i := 40) rfl rfl, wini_9, rfl, ⟨wcl_9.1, wcl_9.2, by decide +kernel⟩, Nat.le_of_ble_eq_true rfl⟩
theorem wi_X9_option : Cond.instanceMethod (mi_X9_option).1 ∈ sm_Tg := sg_4 (i := 38) rfl rfl
theorem wv_X9_option : Cond.selects (mi_X9_option).1.cls (mi_X9_option).1 (mi_X9_option).1 ∈ sm_Tg := sg_4 (i := 39) rfl rfl
theorem wm_X9_kept : sm_mi mi_X9_kept 2 := ⟨sg_4 (i := 92) rfl rfl, wini_9, rfl, ⟨wcl_9.1, wcl_9.2, by decide +kernel⟩, Nat.le_of_ble_eq_true rfl⟩
theorem wi_X9_kept : Cond.instanceMethod (mi_X9_kept).1 ∈ sm_Tg := sg_4 (i := 90) rfl rfl
theorem wv_X9_kept : Cond.selects (mi_X9_kept).1.cls (mi_X9_kept).1 (mi_X9_kept).1 ∈ sm_Tg := sg_4 (i := 91) rfl rfl
theorem wm_X9_balance : sm_mi mi_X9_balance 1 := ⟨sg_4 (i := 103) rfl rfl, wini_9, rfl, ⟨wcl_9.1, wcl_9.2, by decide +kernel⟩, Nat.le_of_ble_eq_true rfl⟩
theorem wi_X9_balance : Cond.instanceMethod (mi_X9_balance).1 ∈ sm_Tg := sg_4 (i := 101) rfl rfl
theorem wv_X9_balance : Cond.selects (mi_X9_balance).1.cls (mi_X9_balance).1 (mi_X9_balance).1 ∈ sm_Tg := sg_4 (i := 102) rfl rfl
theorem wm_X9_value : sm_mi mi_X9_value 1 := ⟨sg_4 (i := 115) rfl rfl, wini_9, rfl, ⟨wcl_9.1, wcl_9.2, by decide +kernel⟩, Nat.le_of_ble_eq_true rfl⟩
theorem wi_X9_value : Cond.instanceMethod (mi_X9_value).1 ∈ sm_Tg := sg_4 (i := 113) rfl rfl
theorem wv_X9_value : Cond.selects (mi_X9_value).1.cls (mi_X9_value).1 (mi_X9_value).1 ∈ sm_Tg := sg_4 (i := 114) rfl rfl
theorem wm_X9_best : sm_mi mi_X9_best 1 := ⟨sg_4 (i := 138) rfl rfl, wini_9, rfl, ⟨wcl_9.1, wcl_9.2, by decide +kernel⟩, Nat.le_of_ble_eq_true rfl⟩
theorem wi_X9_best : Cond.instanceMethod (mi_X9_best).1 ∈ sm_Tg := sg_4 (i := 136) rfl rfl
theorem wv_X9_best : Cond.selects (mi_X9_best).1.cls (mi_X9_best).1 (mi_X9_best).1 ∈ sm_Tg := sg_4 (i := 137) rfl rfl
theorem wm_X9_forced : sm_mi mi_X9_forced 0 := ⟨sg_4 (i := 150) rfl rfl, wini_9, rfl, ⟨wcl_9.1, wcl_9.2, by decide +kernel⟩, Nat.le_of_ble_eq_true rfl⟩
theorem wi_X9_forced : Cond.instanceMethod (mi_X9_forced).1 ∈ sm_Tg := sg_4 (i := 148) rfl rfl
theorem wv_X9_forced : Cond.selects (mi_X9_forced).1.cls (mi_X9_forced).1 (mi_X9_forced).1 ∈ sm_Tg := sg_4 (i := 149) rfl rfl
theorem wm_X9_later : sm_mi mi_X9_later 2 := ⟨sg_4 (i := 166) rfl rfl, wini_9, rfl, ⟨wcl_9.1, wcl_9.2, by decide +kernel⟩, Nat.le_of_ble_eq_true rfl⟩
theorem wi_X9_later : Cond.instanceMethod (mi_X9_later).1 ∈ sm_Tg := sg_4 (i := 164) rfl rfl
theorem wv_X9_later : Cond.selects (mi_X9_later).1.cls (mi_X9_later).1 (mi_X9_later).1 ∈ sm_Tg := sg_4 (i := 165) rfl rfl
theorem wm_X9_crop : sm_mi mi_X9_crop 2 := ⟨sg_5 (i := 2) rfl rfl, wini_9, rfl, ⟨wcl_9.1, wcl_9.2, by decide +kernel⟩, Nat.le_of_ble_eq_true rfl⟩
theorem wi_X9_crop : Cond.instanceMethod (mi_X9_crop).1 ∈ sm_Tg := sg_5 (i := 0) rfl rfl
theorem wv_X9_crop : Cond.selects (mi_X9_crop).1.cls (mi_X9_crop).1 (mi_X9_crop).1 ∈ sm_Tg := sg_5 (i := 1) rfl rfl
theorem wm_X9_spare : sm_mi mi_X9_spare 3 := ⟨sg_5 (i := 6) rfl rfl, wini_9, rfl, ⟨wcl_9.1, wcl_9.2, by decide +kernel⟩, Nat.le_of_ble_eq_true rfl⟩
theorem wi_X9_spare : Cond.instanceMethod (mi_X9_spare).1 ∈ sm_Tg := sg_5 (i := 4) rfl rfl
theorem wv_X9_spare : Cond.selects (mi_X9_spare).1.cls (mi_X9_spare).1 (mi_X9_spare).1 ∈ sm_Tg := sg_5 (i := 5) rfl rfl
theorem wm_X9_sow : sm_mi mi_X9_sow 2 := ⟨sg_5 (i := 12) rfl rfl, wini_9, rfl, ⟨wcl_9.1, wcl_9.2, by decide +kernel⟩, Nat.le_of_ble_eq_true rfl⟩
theorem wi_X9_sow : Cond.instanceMethod (mi_X9_sow).1 ∈ sm_Tg := sg_5 (i := 10) rfl rfl
theorem wv_X9_sow : Cond.selects (mi_X9_sow).1.cls (mi_X9_sow).1 (mi_X9_sow).1 ∈ sm_Tg := sg_5 (i := 11) rfl rfl
theorem wm_X9_deeper : sm_mi mi_X9_deeper 3 := ⟨sg_5 (i := 35) rfl rfl, wini_9, rfl, ⟨wcl_9.1, wcl_9.2, by decide +kernel⟩, Nat.le_of_ble_eq_true rfl⟩
theorem wi_X9_deeper : Cond.instanceMethod (mi_X9_deeper).1 ∈ sm_Tg := sg_5 (i := 33) rfl rfl
theorem wv_X9_deeper : Cond.selects (mi_X9_deeper).1.cls (mi_X9_deeper).1 (mi_X9_deeper).1 ∈ sm_Tg := sg_5 (i := 34) rfl rfl
theorem wm_X9_see : sm_mi mi_X9_see 0 := ⟨sg_5 (i := 39) rfl rfl, wini_9, rfl, ⟨wcl_9.1, wcl_9.2, by decide +kernel⟩, Nat.le_of_ble_eq_true rfl⟩
theorem wi_X9_see : Cond.instanceMethod (mi_X9_see).1 ∈ sm_Tg := sg_5 (i := 37) rfl rfl
theorem wv_X9_see : Cond.selects (mi_X9_see).1.cls (mi_X9_see).1 (mi_X9_see).1 ∈ sm_Tg := sg_5 (i := 38) rfl rfl
theorem wm_X9_played : sm_mi mi_X9_played 1 := ⟨sg_5 (i := 49) rfl rfl, wini_9, rfl, ⟨wcl_9.1, wcl_9.2, by decide +kernel⟩, Nat.le_of_ble_eq_true rfl⟩
theorem wi_X9_played : Cond.instanceMethod (mi_X9_played).1 ∈ sm_Tg := sg_5 (i := 47) rfl rfl
theorem wv_X9_played : Cond.selects (mi_X9_played).1.cls (mi_X9_played).1 (mi_X9_played).1 ∈ sm_Tg := sg_5 (i := 48) rfl rfl
theorem wm_X9_reached : sm_mi mi_X9_reached 1 := ⟨sg_5 (i := 57) rfl rfl, wini_9, rfl, ⟨wcl_9.1, wcl_9.2, by decide +kernel⟩, Nat.le_of_ble_eq_true rfl⟩
theorem wi_X9_reached : Cond.instanceMethod (mi_X9_reached).1 ∈ sm_Tg := sg_5 (i := 55) rfl rfl
theorem wv_X9_reached : Cond.selects (mi_X9_reached).1.cls (mi_X9_reached).1 (mi_X9_reached).1 ∈ sm_Tg := sg_5 (i := 56) rfl rfl
theorem wm_X9_play : sm_mi mi_X9_play 1 := ⟨sg_5 (i := 74) rfl rfl, wini_9, rfl, ⟨wcl_9.1, wcl_9.2, by decide +kernel⟩, Nat.le_of_ble_eq_true rfl⟩
theorem wi_X9_play : Cond.instanceMethod (mi_X9_play).1 ∈ sm_Tg := sg_5 (i := 72) rfl rfl
theorem wv_X9_play : Cond.selects (mi_X9_play).1.cls (mi_X9_play).1 (mi_X9_play).1 ∈ sm_Tg := sg_5 (i := 73) rfl rfl
theorem wm_X9_tend : sm_mi mi_X9_tend 2 := ⟨sg_5 (i := 91) rfl rfl, wini_9, rfl, ⟨wcl_9.1, wcl_9.2, by decide +kernel⟩, Nat.le_of_ble_eq_true rfl⟩
theorem wi_X9_tend : Cond.instanceMethod (mi_X9_tend).1 ∈ sm_Tg := sg_5 (i := 89) rfl rfl
theorem wv_X9_tend : Cond.selects (mi_X9_tend).1.cls (mi_X9_tend).1 (mi_X9_tend).1 ∈ sm_Tg := sg_5 (i := 90) rfl rfl
theorem wm_X9_days : sm_mi mi_X9_days 1 := ⟨sg_5 (i := 95) rfl rfl, wini_9, rfl, ⟨wcl_9.1, wcl_9.2, by decide +kernel⟩, Nat.le_of_ble_eq_true rfl⟩
theorem wi_X9_days : Cond.instanceMethod (mi_X9_days).1 ∈ sm_Tg := sg_5 (i := 93) rfl rfl
theorem wv_X9_days : Cond.selects (mi_X9_days).1.cls (mi_X9_days).1 (mi_X9_days).1 ∈ sm_Tg := sg_5 (i := 94) rfl rfl
theorem wm_X9_chance : sm_mi mi_X9_chance 1 := ⟨sg_5 (i := 99) rfl rfl, wini_9, rfl, ⟨wcl_9.1, wcl_9.2, by decide +kernel⟩, Nat.le_of_ble_eq_true rfl⟩
theorem wi_X9_chance : Cond.instanceMethod (mi_X9_chance).1 ∈ sm_Tg := sg_5 (i := 97) rfl rfl
theorem wv_X9_chance : Cond.selects (mi_X9_chance).1.cls (mi_X9_chance).1 (mi_X9_chance).1 ∈ sm_Tg := sg_5 (i := 98) rfl rfl
theorem wm_X9_undo : sm_mi mi_X9_undo 0 := ⟨sg_5 (i := 110) rfl rfl, wini_9, rfl, ⟨wcl_9.1, wcl_9.2, by decide +kernel⟩, Nat.le_of_ble_eq_true rfl⟩
theorem wi_X9_undo : Cond.instanceMethod (mi_X9_undo).1 ∈ sm_Tg := sg_5 (i := 108) rfl rfl
theorem wv_X9_undo : Cond.selects (mi_X9_undo).1.cls (mi_X9_undo).1 (mi_X9_undo).1 ∈ sm_Tg := sg_5 (i := 109) rfl rfl
theorem wm_X9_seed : sm_mi mi_X9_seed 1 := ⟨sg_5 (i := 119) rfl rfl, wini_9, rfl, ⟨wcl_9.1, wcl_9.2, by decide +kernel⟩, Nat.le_of_ble_eq_true rfl⟩
theorem wi_X9_seed : Cond.instanceMethod (mi_X9_seed).1 ∈ sm_Tg := sg_5 (i := 117) rfl rfl
theorem wv_X9_seed : Cond.selects (mi_X9_seed).1.cls (mi_X9_seed).1 (mi_X9_seed).1 ∈ sm_Tg := sg_5 (i := 118) rfl rfl
theorem wm_X9_ask : sm_mi mi_X9_ask 0 := ⟨sg_5 (i := 123) rfl rfl, wini_9, rfl, ⟨wcl_9.1, wcl_9.2, by decide +kernel⟩, Nat.le_of_ble_eq_true rfl⟩
theorem wi_X9_ask : Cond.instanceMethod (mi_X9_ask).1 ∈ sm_Tg := sg_5 (i := 121) rfl rfl
theorem wv_X9_ask : Cond.selects (mi_X9_ask).1.cls (mi_X9_ask).1 (mi_X9_ask).1 ∈ sm_Tg := sg_5 (i := 122) rfl rfl
theorem wm_X9_image : sm_mi mi_X9_image 0 := ⟨sg_5 (i := 156) rfl rfl, wini_9, rfl, ⟨wcl_9.1, wcl_9.2, by decide +kernel⟩, Nat.le_of_ble_eq_true rfl⟩
theorem wi_X9_image : Cond.instanceMethod (mi_X9_image).1 ∈ sm_Tg := sg_5 (i := 154) rfl rfl
theorem wv_X9_image : Cond.selects (mi_X9_image).1.cls (mi_X9_image).1 (mi_X9_image).1 ∈ sm_Tg := sg_5 (i := 155) rfl rfl
theorem wm_X9_octet : sm_mi mi_X9_octet 1 := ⟨sg_5 (i := 171) rfl rfl, wini_9, rfl, ⟨wcl_9.1, wcl_9.2, by decide +kernel⟩, Nat.le_of_ble_eq_true rfl⟩
theorem wi_X9_octet : Cond.instanceMethod (mi_X9_octet).1 ∈ sm_Tg := sg_5 (i := 169) rfl rfl
theorem wv_X9_octet : Cond.selects (mi_X9_octet).1.cls (mi_X9_octet).1 (mi_X9_octet).1 ∈ sm_Tg := sg_5 (i := 170) rfl rfl
theorem wm_X9_on : sm_mi mi_X9_on 0 := ⟨sg_5 (i := 175) rfl rfl, wini_9, rfl, ⟨wcl_9.1, wcl_9.2, by decide +kernel⟩, Nat.le_of_ble_eq_true rfl⟩
theorem wi_X9_on : Cond.instanceMethod (mi_X9_on).1 ∈ sm_Tg := sg_5 (i := 173) rfl rfl
theorem wv_X9_on : Cond.selects (mi_X9_on).1.cls (mi_X9_on).1 (mi_X9_on).1 ∈ sm_Tg := sg_5 (i := 174) rfl rfl
theorem wm_X9_status : sm_mi mi_X9_status 1 := ⟨sg_5 (i := 188) rfl rfl, wini_9, rfl, ⟨wcl_9.1, wcl_9.2, by decide +kernel⟩, Nat.le_of_ble_eq_true rfl⟩
theorem wi_X9_status : Cond.instanceMethod (mi_X9_status).1 ∈ sm_Tg := sg_5 (i := 186) rfl rfl
theorem wv_X9_status : Cond.selects (mi_X9_status).1.cls (mi_X9_status).1 (mi_X9_status).1 ∈ sm_Tg := sg_5 (i := 187) rfl rfl
theorem wm_X9_refuse : sm_mi mi_X9_refuse 1 := ⟨sg_2 (i := 195) rfl rfl, wini_9, rfl, ⟨wcl_9.1, wcl_9.2, by decide +kernel⟩, Nat.le_of_ble_eq_true rfl⟩
theorem wi_X9_refuse : Cond.instanceMethod (mi_X9_refuse).1 ∈ sm_Tg := sg_2 (i := 194) rfl rfl
theorem wv_X9_refuse : Cond.selects (mi_X9_refuse).1.cls (mi_X9_refuse).1 (mi_X9_refuse).1 ∈ sm_Tg := sg_P (i := 2) rfl rfl
theorem wm_X9_noteFault : sm_mi mi_X9_noteFault 0 := ⟨sg_3 (i := 174) rfl rfl, wini_9, rfl, ⟨wcl_9.1, wcl_9.2, by decide +kernel⟩, Nat.le_of_ble_eq_true rfl⟩
theorem wi_X9_noteFault : Cond.instanceMethod (mi_X9_noteFault).1 ∈ sm_Tg := sg_3 (i := 173) rfl rfl
theorem wv_X9_noteFault : Cond.selects (mi_X9_noteFault).1.cls (mi_X9_noteFault).1 (mi_X9_noteFault).1 ∈ sm_Tg := sg_P (i := 18) rfl rfl
theorem wm_X9_isTold : sm_mi mi_X9_isTold 0 := ⟨sg_3 (i := 194) rfl rfl, wini_9, rfl, ⟨wcl_9.1, wcl_9.2, by decide +kernel⟩, Nat.le_of_ble_eq_true rfl⟩
theorem wi_X9_isTold : Cond.instanceMethod (mi_X9_isTold).1 ∈ sm_Tg := sg_3 (i := 193) rfl rfl
theorem wv_X9_isTold : Cond.selects (mi_X9_isTold).1.cls (mi_X9_isTold).1 (mi_X9_isTold).1 ∈ sm_Tg := sg_P (i := 19) rfl rfl
theorem wm_X9_isField : sm_mi mi_X9_isField 1 := ⟨sg_4 (i := 28) rfl rfl, wini_9, rfl, ⟨wcl_9.1, wcl_9.2, by decide +kernel⟩, Nat.le_of_ble_eq_true rfl⟩
theorem wi_X9_isField : Cond.instanceMethod (mi_X9_isField).1 ∈ sm_Tg := sg_4 (i := 27) rfl rfl
theorem wv_X9_isField : Cond.selects (mi_X9_isField).1.cls (mi_X9_isField).1 (mi_X9_isField).1 ∈ sm_Tg := sg_P (i := 22) rfl rfl
theorem wm_X9_isSide : sm_mi mi_X9_isSide 1 := ⟨sg_4 (i := 106) rfl rfl, wini_9, rfl, ⟨wcl_9.1, wcl_9.2, by decide +kernel⟩, Nat.le_of_ble_eq_true rfl⟩
theorem wt_X9_isSide : Cond.static (mi_X9_isSide).1 ∈ sm_Tg := sg_4 (i := 105) rfl rfl
theorem wm_X9_canCome : sm_mi mi_X9_canCome 3 := ⟨sg_4 (i := 170) rfl rfl, wini_9, rfl, ⟨wcl_9.1, wcl_9.2, by decide +kernel⟩, Nat.le_of_ble_eq_true rfl⟩
theorem wi_X9_canCome : Cond.instanceMethod (mi_X9_canCome).1 ∈ sm_Tg := sg_4 (i := 169) rfl rfl
theorem wv_X9_canCome : Cond.selects (mi_X9_canCome).1.cls (mi_X9_canCome).1 (mi_X9_canCome).1 ∈ sm_Tg := sg_P (i := 31) rfl rfl
theorem wm_X9_letterOf : sm_mi mi_X9_letterOf 2 := ⟨sg_4 (i := 10) rfl rfl, wini_9, rfl, ⟨wcl_9.1, wcl_9.2, by decide +kernel⟩, Nat.le_of_ble_eq_true rfl⟩
theorem wt_X9_letterOf : Cond.static (mi_X9_letterOf).1 ∈ sm_Tg := sg_4 (i := 9) rfl rfl
theorem wm_X9_byteOfMan : sm_mi mi_X9_byteOfMan 1 := ⟨sg_4 (i := 59) rfl rfl, wini_9, rfl, ⟨wcl_9.1, wcl_9.2, by decide +kernel⟩, Nat.le_of_ble_eq_true rfl⟩
theorem wt_X9_byteOfMan : Cond.static (mi_X9_byteOfMan).1 ∈ sm_Tg := sg_4 (i := 58) rfl rfl
theorem wm_X9_moveOf : sm_mi mi_X9_moveOf 2 := ⟨sg_4 (i := 50) rfl rfl, wini_9, rfl, ⟨wcl_9.1, wcl_9.2, by decide +kernel⟩, Nat.le_of_ble_eq_true rfl⟩
theorem wt_X9_moveOf : Cond.static (mi_X9_moveOf).1 ∈ sm_Tg := sg_4 (i := 49) rfl rfl
theorem wm_X9_manOfMove : sm_mi mi_X9_manOfMove 1 := ⟨sg_4 (i := 56) rfl rfl, wini_9, rfl, ⟨wcl_9.1, wcl_9.2, by decide +kernel⟩, Nat.le_of_ble_eq_true rfl⟩
theorem wt_X9_manOfMove : Cond.static (mi_X9_manOfMove).1 ∈ sm_Tg := sg_4 (i := 55) rfl rfl
theorem wm_X9_placeOfMove : sm_mi mi_X9_placeOfMove 1 := ⟨sg_4 (i := 53) rfl rfl, wini_9, rfl, ⟨wcl_9.1, wcl_9.2, by decide +kernel⟩, Nat.le_of_ble_eq_true rfl⟩
theorem wt_X9_placeOfMove : Cond.static (mi_X9_placeOfMove).1 ∈ sm_Tg := sg_4 (i := 52) rfl rfl
theorem wm_X9_farness : sm_mi mi_X9_farness 2 := ⟨sg_4 (i := 195) rfl rfl, wini_9, rfl, ⟨wcl_9.1, wcl_9.2, by decide +kernel⟩, Nat.le_of_ble_eq_true rfl⟩
theorem wt_X9_farness : Cond.static (mi_X9_farness).1 ∈ sm_Tg := sg_4 (i := 194) rfl rfl
theorem wm_X9_marked : sm_mi mi_X9_marked 2 := ⟨sg_5 (i := 167) rfl rfl, wini_9, rfl, ⟨wcl_9.1, wcl_9.2, by decide +kernel⟩, Nat.le_of_ble_eq_true rfl⟩
theorem wt_X9_marked : Cond.static (mi_X9_marked).1 ∈ sm_Tg := sg_5 (i := 166) rfl rfl
theorem wm_X9_actDay : sm_mi mi_X9_actDay 1 := ⟨sg_5 (i := 83) rfl rfl, wini_9, rfl, ⟨wcl_9.1, wcl_9.2, by decide +kernel⟩, Nat.le_of_ble_eq_true rfl⟩
theorem wi_X9_actDay : Cond.instanceMethod (mi_X9_actDay).1 ∈ sm_Tg := sg_5 (i := 82) rfl rfl
theorem wv_X9_actDay : Cond.selects (mi_X9_actDay).1.cls (mi_X9_actDay).1 (mi_X9_actDay).1 ∈ sm_Tg := sg_P (i := 41) rfl rfl
theorem wm_X9_draw : sm_mi mi_X9_draw 1 := ⟨sg_5 (i := 103) rfl rfl, wini_9, rfl, ⟨wcl_9.1, wcl_9.2, by decide +kernel⟩, Nat.le_of_ble_eq_true rfl⟩
theorem wi_X9_draw : Cond.instanceMethod (mi_X9_draw).1 ∈ sm_Tg := sg_5 (i := 102) rfl rfl
theorem wv_X9_draw : Cond.selects (mi_X9_draw).1.cls (mi_X9_draw).1 (mi_X9_draw).1 ∈ sm_Tg := sg_P (i := 42) rfl rfl
theorem wm_X9_gatherHarm : sm_mi mi_X9_gatherHarm 1 := ⟨sg_5 (i := 16) rfl rfl, wini_9, rfl, ⟨wcl_9.1, wcl_9.2, by decide +kernel⟩, Nat.le_of_ble_eq_true rfl⟩
theorem wi_X9_gatherHarm : Cond.instanceMethod (mi_X9_gatherHarm).1 ∈ sm_Tg := sg_5 (i := 15) rfl rfl
theorem wv_X9_gatherHarm : Cond.selects (mi_X9_gatherHarm).1.cls (mi_X9_gatherHarm).1 (mi_X9_gatherHarm).1 ∈ sm_Tg := sg_P (i := 35) rfl rfl
theorem wm_X9_addHarm : sm_mi mi_X9_addHarm 0 := ⟨sg_5 (i := 22) rfl rfl, wini_9, rfl, ⟨wcl_9.1, wcl_9.2, by decide +kernel⟩, Nat.le_of_ble_eq_true rfl⟩
theorem wi_X9_addHarm : Cond.instanceMethod (mi_X9_addHarm).1 ∈ sm_Tg := sg_5 (i := 21) rfl rfl
theorem wv_X9_addHarm : Cond.selects (mi_X9_addHarm).1.cls (mi_X9_addHarm).1 (mi_X9_addHarm).1 ∈ sm_Tg := sg_P (i := 36) rfl rfl
theorem wm_X9_leastHarmed : sm_mi mi_X9_leastHarmed 0 := ⟨sg_5 (i := 29) rfl rfl, wini_9, rfl, ⟨wcl_9.1, wcl_9.2, by decide +kernel⟩, Nat.le_of_ble_eq_true rfl⟩
theorem wi_X9_leastHarmed : Cond.instanceMethod (mi_X9_leastHarmed).1 ∈ sm_Tg := sg_5 (i := 28) rfl rfl
theorem wv_X9_leastHarmed : Cond.selects (mi_X9_leastHarmed).1.cls (mi_X9_leastHarmed).1 (mi_X9_leastHarmed).1 ∈ sm_Tg := sg_P (i := 37) rfl rfl
theorem wm_X9_isAsSeen : sm_mi mi_X9_isAsSeen 1 := ⟨sg_5 (i := 53) rfl rfl, wini_9, rfl, ⟨wcl_9.1, wcl_9.2, by decide +kernel⟩, Nat.le_of_ble_eq_true rfl⟩
theorem wi_X9_isAsSeen : Cond.instanceMethod (mi_X9_isAsSeen).1 ∈ sm_Tg := sg_5 (i := 52) rfl rfl
theorem wv_X9_isAsSeen : Cond.selects (mi_X9_isAsSeen).1.cls (mi_X9_isAsSeen).1 (mi_X9_isAsSeen).1 ∈ sm_Tg := sg_P (i := 38) rfl rfl
theorem wm_X9_readPlaces : sm_mi mi_X9_readPlaces 1 := ⟨sg_5 (i := 61) rfl rfl, wini_9, rfl, ⟨wcl_9.1, wcl_9.2, by decide +kernel⟩, Nat.le_of_ble_eq_true rfl⟩
theorem wi_X9_readPlaces : Cond.instanceMethod (mi_X9_readPlaces).1 ∈ sm_Tg := sg_5 (i := 60) rfl rfl
theorem wv_X9_readPlaces : Cond.selects (mi_X9_readPlaces).1.cls (mi_X9_readPlaces).1 (mi_X9_readPlaces).1 ∈ sm_Tg := sg_P (i := 39) rfl rfl
theorem wm_X9_isImage : sm_mi mi_X9_isImage 0 := ⟨sg_5 (i := 179) rfl rfl, wini_9, rfl, ⟨wcl_9.1, wcl_9.2, by decide +kernel⟩, Nat.le_of_ble_eq_true rfl⟩
theorem wi_X9_isImage : Cond.instanceMethod (mi_X9_isImage).1 ∈ sm_Tg := sg_5 (i := 178) rfl rfl
theorem wv_X9_isImage : Cond.selects (mi_X9_isImage).1.cls (mi_X9_isImage).1 (mi_X9_isImage).1 ∈ sm_Tg := sg_P (i := 49) rfl rfl
theorem wm_X9_takeImage : sm_mi mi_X9_takeImage 0 := ⟨sg_5 (i := 183) rfl rfl, wini_9, rfl, ⟨wcl_9.1, wcl_9.2, by decide +kernel⟩, Nat.le_of_ble_eq_true rfl⟩
theorem wi_X9_takeImage : Cond.instanceMethod (mi_X9_takeImage).1 ∈ sm_Tg := sg_5 (i := 182) rfl rfl
theorem wv_X9_takeImage : Cond.selects (mi_X9_takeImage).1.cls (mi_X9_takeImage).1 (mi_X9_takeImage).1 ∈ sm_Tg := sg_P (i := 50) rfl rfl
theorem wm_X9_write : sm_mi mi_X9_write 1 := ⟨sg_5 (i := 164) rfl rfl, wini_9, rfl, ⟨wcl_9.1, wcl_9.2, by decide +kernel⟩, Nat.le_of_ble_eq_true rfl⟩
theorem wi_X9_write : Cond.instanceMethod (mi_X9_write).1 ∈ sm_Tg := sg_5 (i := 163) rfl rfl
theorem wv_X9_write : Cond.selects (mi_X9_write).1.cls (mi_X9_write).1 (mi_X9_write).1 ∈ sm_Tg := sg_P (i := 48) rfl rfl
theorem wm_X9_writePair : sm_mi mi_X9_writePair 1 := ⟨sg_5 (i := 160) rfl rfl, wini_9, rfl, ⟨wcl_9.1, wcl_9.2, by decide +kernel⟩, Nat.le_of_ble_eq_true rfl⟩
theorem wi_X9_writePair : Cond.instanceMethod (mi_X9_writePair).1 ∈ sm_Tg := sg_5 (i := 159) rfl rfl
theorem wv_X9_writePair : Cond.selects (mi_X9_writePair).1.cls (mi_X9_writePair).1 (mi_X9_writePair).1 ∈ sm_Tg := sg_P (i := 47) rfl rfl
theorem wm_X9_answer : sm_mi mi_X9_answer 1 := ⟨sg_5 (i := 148) rfl rfl, wini_9, rfl, ⟨wcl_9.1, wcl_9.2, by decide +kernel⟩, Nat.le_of_ble_eq_true rfl⟩
theorem wi_X9_answer : Cond.instanceMethod (mi_X9_answer).1 ∈ sm_Tg := sg_5 (i := 147) rfl rfl
theorem wv_X9_answer : Cond.selects (mi_X9_answer).1.cls (mi_X9_answer).1 (mi_X9_answer).1 ∈ sm_Tg := sg_P (i := 46) rfl rfl
theorem wm_X10_init : sm_mi mi_X10_init 0 := ⟨sg_5 (i := 193) rfl rfl, wini_10, rfl, ⟨wcl_10.1, wcl_10.2, by decide +kernel⟩, Nat.le_of_ble_eq_true rfl⟩
theorem wi_X10_init : Cond.instanceMethod (mi_X10_init).1 ∈ sm_Tg := sg_5 (i := 192) rfl rfl
theorem wm_X10_isIn : sm_mi mi_X10_isIn 3 := ⟨sg_7 (i := 132) rfl rfl, wini_10, rfl, ⟨wcl_10.1, wcl_10.2, by decide +kernel⟩, Nat.le_of_ble_eq_true rfl⟩
theorem wt_X10_isIn : Cond.static (mi_X10_isIn).1 ∈ sm_Tg := sg_7 (i := 131) rfl rfl
theorem wm_X10_feed : sm_mi mi_X10_feed 5 := ⟨sg_7 (i := 87) rfl rfl, wini_10, rfl, ⟨wcl_10.1, wcl_10.2, by decide +kernel⟩, Nat.le_of_ble_eq_true rfl⟩
theorem wi_X10_feed : Cond.instanceMethod (mi_X10_feed).1 ∈ sm_Tg := sg_7 (i := 85) rfl rfl
theorem wv_X10_feed : Cond.selects (mi_X10_feed).1.cls (mi_X10_feed).1 (mi_X10_feed).1 ∈ sm_Tg := sg_7 (i := 86) rfl rfl
theorem wm_X10_end : sm_mi mi_X10_end 1 := ⟨sg_7 (i := 91) rfl rfl, wini_10, rfl, ⟨wcl_10.1, wcl_10.2, by decide +kernel⟩, Nat.le_of_ble_eq_true rfl⟩
theorem wi_X10_end : Cond.instanceMethod (mi_X10_end).1 ∈ sm_Tg := sg_7 (i := 89) rfl rfl
theorem wv_X10_end : Cond.selects (mi_X10_end).1.cls (mi_X10_end).1 (mi_X10_end).1 ∈ sm_Tg := sg_7 (i := 90) rfl rfl
theorem wm_X10_fail : sm_mi mi_X10_fail 2 := ⟨sg_7 (i := 122) rfl rfl, wini_10, rfl, ⟨wcl_10.1, wcl_10.2, by decide +kernel⟩, Nat.le_of_ble_eq_true rfl⟩
theorem wi_X10_fail : Cond.instanceMethod (mi_X10_fail).1 ∈ sm_Tg := sg_7 (i := 121) rfl rfl
theorem wv_X10_fail : Cond.selects (mi_X10_fail).1.cls (mi_X10_fail).1 (mi_X10_fail).1 ∈ sm_Tg := sg_P (i := 56) rfl rfl
theorem wm_X10_isLetter : sm_mi mi_X10_isLetter 1 := ⟨sg_7 (i := 118) rfl rfl, wini_10, rfl, ⟨wcl_10.1, wcl_10.2, by decide +kernel⟩, Nat.le_of_ble_eq_true rfl⟩
theorem wt_X10_isLetter : Cond.static (mi_X10_isLetter).1 ∈ sm_Tg := sg_7 (i := 117) rfl rfl
theorem wm_X10_isDigit : sm_mi mi_X10_isDigit 1 := ⟨sg_7 (i := 129) rfl rfl, wini_10, rfl, ⟨wcl_10.1, wcl_10.2, by decide +kernel⟩, Nat.le_of_ble_eq_true rfl⟩
theorem wt_X10_isDigit : Cond.static (mi_X10_isDigit).1 ∈ sm_Tg := sg_7 (i := 128) rfl rfl
theorem wm_X10_look : sm_mi mi_X10_look 0 := ⟨sg_7 (i := 115) rfl rfl, wini_10, rfl, ⟨wcl_10.1, wcl_10.2, by decide +kernel⟩, Nat.le_of_ble_eq_true rfl⟩
theorem wi_X10_look : Cond.instanceMethod (mi_X10_look).1 ∈ sm_Tg := sg_7 (i := 114) rfl rfl
theorem wv_X10_look : Cond.selects (mi_X10_look).1.cls (mi_X10_look).1 (mi_X10_look).1 ∈ sm_Tg := sg_P (i := 55) rfl rfl
theorem wm_X10_isHere : sm_mi mi_X10_isHere 1 := ⟨sg_7 (i := 111) rfl rfl, wini_10, rfl, ⟨wcl_10.1, wcl_10.2, by decide +kernel⟩, Nat.le_of_ble_eq_true rfl⟩
theorem wi_X10_isHere : Cond.instanceMethod (mi_X10_isHere).1 ∈ sm_Tg := sg_7 (i := 110) rfl rfl
theorem wv_X10_isHere : Cond.selects (mi_X10_isHere).1.cls (mi_X10_isHere).1 (mi_X10_isHere).1 ∈ sm_Tg := sg_P (i := 54) rfl rfl
theorem wm_X10_takes : sm_mi mi_X10_takes 1 := ⟨sg_7 (i := 107) rfl rfl, wini_10, rfl, ⟨wcl_10.1, wcl_10.2, by decide +kernel⟩, Nat.le_of_ble_eq_true rfl⟩
theorem wi_X10_takes : Cond.instanceMethod (mi_X10_takes).1 ∈ sm_Tg := sg_7 (i := 106) rfl rfl
theorem wv_X10_takes : Cond.selects (mi_X10_takes).1.cls (mi_X10_takes).1 (mi_X10_takes).1 ∈ sm_Tg := sg_P (i := 53) rfl rfl
theorem wm_X10_asks : sm_mi mi_X10_asks 1 := ⟨sg_7 (i := 103) rfl rfl, wini_10, rfl, ⟨wcl_10.1, wcl_10.2, by decide +kernel⟩, Nat.le_of_ble_eq_true rfl⟩
theorem wi_X10_asks : Cond.instanceMethod (mi_X10_asks).1 ∈ sm_Tg := sg_7 (i := 102) rfl rfl
theorem wv_X10_asks : Cond.selects (mi_X10_asks).1.cls (mi_X10_asks).1 (mi_X10_asks).1 ∈ sm_Tg := sg_P (i := 52) rfl rfl
theorem wm_X10_takesSign : sm_mi mi_X10_takesSign 1 := ⟨sg_7 (i := 140) rfl rfl, wini_10, rfl, ⟨wcl_10.1, wcl_10.2, by decide +kernel⟩, Nat.le_of_ble_eq_true rfl⟩
theorem wi_X10_takesSign : Cond.instanceMethod (mi_X10_takesSign).1 ∈ sm_Tg := sg_7 (i := 139) rfl rfl
theorem wv_X10_takesSign : Cond.selects (mi_X10_takesSign).1.cls (mi_X10_takesSign).1 (mi_X10_takesSign).1 ∈ sm_Tg := sg_P (i := 59) rfl rfl
theorem wm_X10_asksSign : sm_mi mi_X10_asksSign 1 := ⟨sg_7 (i := 136) rfl rfl, wini_10, rfl, ⟨wcl_10.1, wcl_10.2, by decide +kernel⟩, Nat.le_of_ble_eq_true rfl⟩
theorem wi_X10_asksSign : Cond.instanceMethod (mi_X10_asksSign).1 ∈ sm_Tg := sg_7 (i := 135) rfl rfl
theorem wv_X10_asksSign : Cond.selects (mi_X10_asksSign).1.cls (mi_X10_asksSign).1 (mi_X10_asksSign).1 ∈ sm_Tg := sg_P (i := 58) rfl rfl
theorem wm_X10_number : sm_mi mi_X10_number 2 := ⟨sg_7 (i := 126) rfl rfl, wini_10, rfl, ⟨wcl_10.1, wcl_10.2, by decide +kernel⟩, Nat.le_of_ble_eq_true rfl⟩
theorem wi_X10_number : Cond.instanceMethod (mi_X10_number).1 ∈ sm_Tg := sg_7 (i := 125) rfl rfl
theorem wv_X10_number : Cond.selects (mi_X10_number).1.cls (mi_X10_number).1 (mi_X10_number).1 ∈ sm_Tg := sg_P (i := 57) rfl rfl
theorem wm_X10_isOwnHere : sm_mi mi_X10_isOwnHere 0 := ⟨sg_7 (i := 164) rfl rfl, wini_10, rfl, ⟨wcl_10.1, wcl_10.2, by decide +kernel⟩, Nat.le_of_ble_eq_true rfl⟩
theorem wi_X10_isOwnHere : Cond.instanceMethod (mi_X10_isOwnHere).1 ∈ sm_Tg := sg_7 (i := 163) rfl rfl
theorem wv_X10_isOwnHere : Cond.selects (mi_X10_isOwnHere).1.cls (mi_X10_isOwnHere).1 (mi_X10_isOwnHere).1 ∈ sm_Tg := sg_P (i := 65) rfl rfl
theorem wm_X10_name : sm_mi mi_X10_name 0 := ⟨sg_7 (i := 160) rfl rfl, wini_10, rfl, ⟨wcl_10.1, wcl_10.2, by decide +kernel⟩, Nat.le_of_ble_eq_true rfl⟩
theorem wi_X10_name : Cond.instanceMethod (mi_X10_name).1 ∈ sm_Tg := sg_7 (i := 159) rfl rfl
theorem wv_X10_name : Cond.selects (mi_X10_name).1.cls (mi_X10_name).1 (mi_X10_name).1 ∈ sm_Tg := sg_P (i := 64) rfl rfl
theorem wm_X10_isAllowed : sm_mi mi_X10_isAllowed 1 := ⟨sg_7 (i := 210) rfl rfl, wini_10, rfl, ⟨wcl_10.1, wcl_10.2, by decide +kernel⟩, Nat.le_of_ble_eq_true rfl⟩
theorem wi_X10_isAllowed : Cond.instanceMethod (mi_X10_isAllowed).1 ∈ sm_Tg := sg_7 (i := 209) rfl rfl
theorem wv_X10_isAllowed : Cond.selects (mi_X10_isAllowed).1.cls (mi_X10_isAllowed).1 (mi_X10_isAllowed).1 ∈ sm_Tg := sg_P (i := 76) rfl rfl
theorem wm_X10_isFull : sm_mi mi_X10_isFull 3 := ⟨sg_7 (i := 152) rfl rfl, wini_10, rfl, ⟨wcl_10.1, wcl_10.2, by decide +kernel⟩, Nat.le_of_ble_eq_true rfl⟩
theorem wi_X10_isFull : Cond.instanceMethod (mi_X10_isFull).1 ∈ sm_Tg := sg_7 (i := 151) rfl rfl
theorem wv_X10_isFull : Cond.selects (mi_X10_isFull).1.cls (mi_X10_isFull).1 (mi_X10_isFull).1 ∈ sm_Tg := sg_P (i := 62) rfl rfl
theorem wm_X10_nameOf : sm_mi mi_X10_nameOf 2 := ⟨sg_7 (i := 170) rfl rfl, wini_10, rfl, ⟨wcl_10.1, wcl_10.2, by decide +kernel⟩, Nat.le_of_ble_eq_true rfl⟩
theorem wi_X10_nameOf : Cond.instanceMethod (mi_X10_nameOf).1 ∈ sm_Tg := sg_7 (i := 169) rfl rfl
theorem wv_X10_nameOf : Cond.selects (mi_X10_nameOf).1.cls (mi_X10_nameOf).1 (mi_X10_nameOf).1 ∈ sm_Tg := sg_P (i := 66) rfl rfl
theorem wm_X10_newName : sm_mi mi_X10_newName 0 := ⟨sg_7 (i := 156) rfl rfl, wini_10, rfl, ⟨wcl_10.1, wcl_10.2, by decide +kernel⟩, Nat.le_of_ble_eq_true rfl⟩
theorem wi_X10_newName : Cond.instanceMethod (mi_X10_newName).1 ∈ sm_Tg := sg_7 (i := 155) rfl rfl
theorem wv_X10_newName : Cond.selects (mi_X10_newName).1.cls (mi_X10_newName).1 (mi_X10_newName).1 ∈ sm_Tg := sg_P (i := 63) rfl rfl
theorem wm_X10_adds : sm_mi mi_X10_adds 2 := ⟨sg_7 (i := 174) rfl rfl, wini_10, rfl, ⟨wcl_10.1, wcl_10.2, by decide +kernel⟩, Nat.le_of_ble_eq_true rfl⟩
theorem wi_X10_adds : Cond.instanceMethod (mi_X10_adds).1 ∈ sm_Tg := sg_7 (i := 173) rfl rfl
theorem wv_X10_adds : Cond.selects (mi_X10_adds).1.cls (mi_X10_adds).1 (mi_X10_adds).1 ∈ sm_Tg := sg_P (i := 67) rfl rfl
theorem wm_X10_boardTold : sm_mi mi_X10_boardTold 0 := ⟨sg_7 (i := 99) rfl rfl, wini_10, rfl, ⟨wcl_10.1, wcl_10.2, by decide +kernel⟩, Nat.le_of_ble_eq_true rfl⟩
theorem wi_X10_boardTold : Cond.instanceMethod (mi_X10_boardTold).1 ∈ sm_Tg := sg_7 (i := 98) rfl rfl
theorem wv_X10_boardTold : Cond.selects (mi_X10_boardTold).1.cls (mi_X10_boardTold).1 (mi_X10_boardTold).1 ∈ sm_Tg := sg_P (i := 51) rfl rfl
theorem wm_X10_kindTold : sm_mi mi_X10_kindTold 1 := ⟨sg_7 (i := 148) rfl rfl, wini_10, rfl, ⟨wcl_10.1, wcl_10.2, by decide +kernel⟩, Nat.le_of_ble_eq_true rfl⟩
theorem wi_X10_kindTold : Cond.instanceMethod (mi_X10_kindTold).1 ∈ sm_Tg := sg_7 (i := 147) rfl rfl
theorem wv_X10_kindTold : Cond.selects (mi_X10_kindTold).1.cls (mi_X10_kindTold).1 (mi_X10_kindTold).1 ∈ sm_Tg := sg_P (i := 61) rfl rfl
theorem wm_X10_placeTold : sm_mi mi_X10_placeTold 0 := ⟨sg_7 (i := 182) rfl rfl, wini_10, rfl, ⟨wcl_10.1, wcl_10.2, by decide +kernel⟩, Nat.le_of_ble_eq_true rfl⟩
theorem wi_X10_placeTold : Cond.instanceMethod (mi_X10_placeTold).1 ∈ sm_Tg := sg_7 (i := 181) rfl rfl
theorem wv_X10_placeTold : Cond.selects (mi_X10_placeTold).1.cls (mi_X10_placeTold).1 (mi_X10_placeTold).1 ∈ sm_Tg := sg_P (i := 69) rfl rfl
theorem wm_X10_manTold : sm_mi mi_X10_manTold 1 := ⟨sg_7 (i := 178) rfl rfl, wini_10, rfl, ⟨wcl_10.1, wcl_10.2, by decide +kernel⟩, Nat.le_of_ble_eq_true rfl⟩
theorem wi_X10_manTold : Cond.instanceMethod (mi_X10_manTold).1 ∈ sm_Tg := sg_7 (i := 177) rfl rfl
theorem wv_X10_manTold : Cond.selects (mi_X10_manTold).1.cls (mi_X10_manTold).1 (mi_X10_manTold).1 ∈ sm_Tg := sg_P (i := 68) rfl rfl
theorem wm_X10_fieldTold : sm_mi mi_X10_fieldTold 1 := ⟨sg_7 (i := 186) rfl rfl, wini_10, rfl, ⟨wcl_10.1, wcl_10.2, by decide +kernel⟩, Nat.le_of_ble_eq_true rfl⟩
theorem wi_X10_fieldTold : Cond.instanceMethod (mi_X10_fieldTold).1 ∈ sm_Tg := sg_7 (i := 185) rfl rfl
theorem wv_X10_fieldTold : Cond.selects (mi_X10_fieldTold).1.cls (mi_X10_fieldTold).1 (mi_X10_fieldTold).1 ∈ sm_Tg := sg_P (i := 70) rfl rfl
theorem wm_X10_harmTold : sm_mi mi_X10_harmTold 1 := ⟨sg_7 (i := 190) rfl rfl, wini_10, rfl, ⟨wcl_10.1, wcl_10.2, by decide +kernel⟩, Nat.le_of_ble_eq_true rfl⟩
theorem wi_X10_harmTold : Cond.instanceMethod (mi_X10_harmTold).1 ∈ sm_Tg := sg_7 (i := 189) rfl rfl
theorem wv_X10_harmTold : Cond.selects (mi_X10_harmTold).1.cls (mi_X10_harmTold).1 (mi_X10_harmTold).1 ∈ sm_Tg := sg_P (i := 71) rfl rfl
theorem wm_X10_statementTold : sm_mi mi_X10_statementTold 0 := ⟨sg_7 (i := 144) rfl rfl, wini_10, rfl, ⟨wcl_10.1, wcl_10.2, by decide +kernel⟩, Nat.le_of_ble_eq_true rfl⟩
theorem wi_X10_statementTold : Cond.instanceMethod (mi_X10_statementTold).1 ∈ sm_Tg := sg_7 (i := 143) rfl rfl
theorem wv_X10_statementTold : Cond.selects (mi_X10_statementTold).1.cls (mi_X10_statementTold).1 (mi_X10_statementTold).1 ∈ sm_Tg := sg_P (i := 60) rfl rfl
theorem wm_X10_board : sm_mi mi_X10_board 0 := ⟨sg_7 (i := 95) rfl rfl, wini_10, rfl, ⟨wcl_10.1, wcl_10.2, by decide +kernel⟩, Nat.le_of_ble_eq_true rfl⟩
theorem wi_X10_board : Cond.instanceMethod (mi_X10_board).1 ∈ sm_Tg := sg_7 (i := 93) rfl rfl
theorem wv_X10_board : Cond.selects (mi_X10_board).1.cls (mi_X10_board).1 (mi_X10_board).1 ∈ sm_Tg := sg_7 (i := 94) rfl rfl
theorem wm_X10_stands : sm_mi mi_X10_stands 0 := ⟨sg_8 (i := 13) rfl rfl, wini_10, rfl, ⟨wcl_10.1, wcl_10.2, by decide +kernel⟩, Nat.le_of_ble_eq_true rfl⟩
theorem wi_X10_stands : Cond.instanceMethod (mi_X10_stands).1 ∈ sm_Tg := sg_8 (i := 12) rfl rfl
theorem wv_X10_stands : Cond.selects (mi_X10_stands).1.cls (mi_X10_stands).1 (mi_X10_stands).1 ∈ sm_Tg := sg_P (i := 86) rfl rfl
theorem wm_X10_fault : sm_mi mi_X10_fault 1 := ⟨sg_8 (i := 17) rfl rfl, wini_10, rfl, ⟨wcl_10.1, wcl_10.2, by decide +kernel⟩, Nat.le_of_ble_eq_true rfl⟩
theorem wi_X10_fault : Cond.instanceMethod (mi_X10_fault).1 ∈ sm_Tg := sg_8 (i := 15) rfl rfl
theorem wv_X10_fault : Cond.selects (mi_X10_fault).1.cls (mi_X10_fault).1 (mi_X10_fault).1 ∈ sm_Tg := sg_8 (i := 16) rfl rfl
theorem wm_X10_manMany : sm_mi mi_X10_manMany 0 := ⟨sg_8 (i := 33) rfl rfl, wini_10, rfl, ⟨wcl_10.1, wcl_10.2, by decide +kernel⟩, Nat.le_of_ble_eq_true rfl⟩
theorem wi_X10_manMany : Cond.instanceMethod (mi_X10_manMany).1 ∈ sm_Tg := sg_8 (i := 32) rfl rfl
theorem wv_X10_manMany : Cond.selects (mi_X10_manMany).1.cls (mi_X10_manMany).1 (mi_X10_manMany).1 ∈ sm_Tg := sg_P (i := 89) rfl rfl
theorem wm_X10_fieldMany : sm_mi mi_X10_fieldMany 0 := ⟨sg_8 (i := 102) rfl rfl, wini_10, rfl, ⟨wcl_10.1, wcl_10.2, by decide +kernel⟩, Nat.le_of_ble_eq_true rfl⟩
theorem wi_X10_fieldMany : Cond.instanceMethod (mi_X10_fieldMany).1 ∈ sm_Tg := sg_8 (i := 101) rfl rfl
theorem wv_X10_fieldMany : Cond.selects (mi_X10_fieldMany).1.cls (mi_X10_fieldMany).1 (mi_X10_fieldMany).1 ∈ sm_Tg := sg_P (i := 104) rfl rfl
theorem wm_X10_isMan : sm_mi mi_X10_isMan 1 := ⟨sg_8 (i := 121) rfl rfl, wini_10, rfl, ⟨wcl_10.1, wcl_10.2, by decide +kernel⟩, Nat.le_of_ble_eq_true rfl⟩
theorem wi_X10_isMan : Cond.instanceMethod (mi_X10_isMan).1 ∈ sm_Tg := sg_8 (i := 120) rfl rfl
theorem wv_X10_isMan : Cond.selects (mi_X10_isMan).1.cls (mi_X10_isMan).1 (mi_X10_isMan).1 ∈ sm_Tg := sg_P (i := 105) rfl rfl
theorem wm_X10_isField : sm_mi mi_X10_isField 1 := ⟨sg_8 (i := 129) rfl rfl, wini_10, rfl, ⟨wcl_10.1, wcl_10.2, by decide +kernel⟩, Nat.le_of_ble_eq_true rfl⟩
theorem wi_X10_isField : Cond.instanceMethod (mi_X10_isField).1 ∈ sm_Tg := sg_8 (i := 128) rfl rfl
theorem wv_X10_isField : Cond.selects (mi_X10_isField).1.cls (mi_X10_isField).1 (mi_X10_isField).1 ∈ sm_Tg := sg_P (i := 106) rfl rfl
theorem wm_X10_columnOf : sm_mi mi_X10_columnOf 1 := ⟨sg_8 (i := 49) rfl rfl, wini_10, rfl, ⟨wcl_10.1, wcl_10.2, by decide +kernel⟩, Nat.le_of_ble_eq_true rfl⟩
theorem wi_X10_columnOf : Cond.instanceMethod (mi_X10_columnOf).1 ∈ sm_Tg := sg_8 (i := 48) rfl rfl
theorem wv_X10_columnOf : Cond.selects (mi_X10_columnOf).1.cls (mi_X10_columnOf).1 (mi_X10_columnOf).1 ∈ sm_Tg := sg_P (i := 93) rfl rfl
theorem wm_X10_rowOf : sm_mi mi_X10_rowOf 1 := ⟨sg_8 (i := 76) rfl rfl, wini_10, rfl, ⟨wcl_10.1, wcl_10.2, by decide +kernel⟩, Nat.le_of_ble_eq_true rfl⟩
theorem wi_X10_rowOf : Cond.instanceMethod (mi_X10_rowOf).1 ∈ sm_Tg := sg_8 (i := 75) rfl rfl
theorem wv_X10_rowOf : Cond.selects (mi_X10_rowOf).1.cls (mi_X10_rowOf).1 (mi_X10_rowOf).1 ∈ sm_Tg := sg_P (i := 99) rfl rfl
theorem wm_X10_isTaken : sm_mi mi_X10_isTaken 1 := ⟨sg_8 (i := 45) rfl rfl, wini_10, rfl, ⟨wcl_10.1, wcl_10.2, by decide +kernel⟩, Nat.le_of_ble_eq_true rfl⟩
theorem wi_X10_isTaken : Cond.instanceMethod (mi_X10_isTaken).1 ∈ sm_Tg := sg_8 (i := 44) rfl rfl
theorem wv_X10_isTaken : Cond.selects (mi_X10_isTaken).1.cls (mi_X10_isTaken).1 (mi_X10_isTaken).1 ∈ sm_Tg := sg_P (i := 92) rfl rfl
theorem wm_X10_kindOf : sm_mi mi_X10_kindOf 1 := ⟨sg_8 (i := 41) rfl rfl, wini_10, rfl, ⟨wcl_10.1, wcl_10.2, by decide +kernel⟩, Nat.le_of_ble_eq_true rfl⟩
theorem wi_X10_kindOf : Cond.instanceMethod (mi_X10_kindOf).1 ∈ sm_Tg := sg_8 (i := 40) rfl rfl
theorem wv_X10_kindOf : Cond.selects (mi_X10_kindOf).1.cls (mi_X10_kindOf).1 (mi_X10_kindOf).1 ∈ sm_Tg := sg_P (i := 91) rfl rfl
theorem wm_X10_sideOf : sm_mi mi_X10_sideOf 1 := ⟨sg_8 (i := 57) rfl rfl, wini_10, rfl, ⟨wcl_10.1, wcl_10.2, by decide +kernel⟩, Nat.le_of_ble_eq_true rfl⟩
theorem wi_X10_sideOf : Cond.instanceMethod (mi_X10_sideOf).1 ∈ sm_Tg := sg_8 (i := 56) rfl rfl
theorem wv_X10_sideOf : Cond.selects (mi_X10_sideOf).1.cls (mi_X10_sideOf).1 (mi_X10_sideOf).1 ∈ sm_Tg := sg_P (i := 95) rfl rfl
theorem wm_X10_worthOf : sm_mi mi_X10_worthOf 1 := ⟨sg_8 (i := 170) rfl rfl, wini_10, rfl, ⟨wcl_10.1, wcl_10.2, by decide +kernel⟩, Nat.le_of_ble_eq_true rfl⟩
theorem wi_X10_worthOf : Cond.instanceMethod (mi_X10_worthOf).1 ∈ sm_Tg := sg_8 (i := 169) rfl rfl
theorem wv_X10_worthOf : Cond.selects (mi_X10_worthOf).1.cls (mi_X10_worthOf).1 (mi_X10_worthOf).1 ∈ sm_Tg := sg_P (i := 112) rfl rfl
theorem wm_X10_isCrown : sm_mi mi_X10_isCrown 1 := ⟨sg_8 (i := 37) rfl rfl, wini_10, rfl, ⟨wcl_10.1, wcl_10.2, by decide +kernel⟩, Nat.le_of_ble_eq_true rfl⟩
theorem wi_X10_isCrown : Cond.instanceMethod (mi_X10_isCrown).1 ∈ sm_Tg := sg_8 (i := 36) rfl rfl
theorem wv_X10_isCrown : Cond.selects (mi_X10_isCrown).1.cls (mi_X10_isCrown).1 (mi_X10_isCrown).1 ∈ sm_Tg := sg_P (i := 90) rfl rfl
theorem wm_X10_places : sm_mi mi_X10_places 0 := ⟨sg_8 (i := 65) rfl rfl, wini_10, rfl, ⟨wcl_10.1, wcl_10.2, by decide +kernel⟩, Nat.le_of_ble_eq_true rfl⟩
theorem wi_X10_places : Cond.instanceMethod (mi_X10_places).1 ∈ sm_Tg := sg_8 (i := 64) rfl rfl
theorem wv_X10_places : Cond.selects (mi_X10_places).1.cls (mi_X10_places).1 (mi_X10_places).1 ∈ sm_Tg := sg_P (i := 97) rfl rfl
theorem wm_X10_manAt : sm_mi mi_X10_manAt 2 := ⟨sg_8 (i := 90) rfl rfl, wini_10, rfl, ⟨wcl_10.1, wcl_10.2, by decide +kernel⟩, Nat.le_of_ble_eq_true rfl⟩
theorem wi_X10_manAt : Cond.instanceMethod (mi_X10_manAt).1 ∈ sm_Tg := sg_8 (i := 89) rfl rfl
theorem wv_X10_manAt : Cond.selects (mi_X10_manAt).1.cls (mi_X10_manAt).1 (mi_X10_manAt).1 ∈ sm_Tg := sg_P (i := 101) rfl rfl
theorem wm_X10_abs : sm_mi mi_X10_abs 1 := ⟨sg_8 (i := 72) rfl rfl, wini_10, rfl, ⟨wcl_10.1, wcl_10.2, by decide +kernel⟩, Nat.le_of_ble_eq_true rfl⟩
theorem wt_X10_abs : Cond.static (mi_X10_abs).1 ∈ sm_Tg := sg_8 (i := 71) rfl rfl
theorem wm_X10_farOff : sm_mi mi_X10_farOff 4 := ⟨sg_8 (i := 79) rfl rfl, wini_10, rfl, ⟨wcl_10.1, wcl_10.2, by decide +kernel⟩, Nat.le_of_ble_eq_true rfl⟩
theorem wt_X10_farOff : Cond.static (mi_X10_farOff).1 ∈ sm_Tg := sg_8 (i := 78) rfl rfl
theorem wm_X10_sign : sm_mi mi_X10_sign 1 := ⟨sg_8 (i := 86) rfl rfl, wini_10, rfl, ⟨wcl_10.1, wcl_10.2, by decide +kernel⟩, Nat.le_of_ble_eq_true rfl⟩
theorem wt_X10_sign : Cond.static (mi_X10_sign).1 ∈ sm_Tg := sg_8 (i := 85) rfl rfl
theorem wm_X10_isWayFree : sm_mi mi_X10_isWayFree 3 := ⟨sg_8 (i := 83) rfl rfl, wini_10, rfl, ⟨wcl_10.1, wcl_10.2, by decide +kernel⟩, Nat.le_of_ble_eq_true rfl⟩
theorem wi_X10_isWayFree : Cond.instanceMethod (mi_X10_isWayFree).1 ∈ sm_Tg := sg_8 (i := 82) rfl rfl
theorem wv_X10_isWayFree : Cond.selects (mi_X10_isWayFree).1.cls (mi_X10_isWayFree).1 (mi_X10_isWayFree).1 ∈ sm_Tg := sg_P (i := 100) rfl rfl
theorem wm_X10_canGo : sm_mi mi_X10_canGo 2 := ⟨sg_8 (i := 69) rfl rfl, wini_10, rfl, ⟨wcl_10.1, wcl_10.2, by decide +kernel⟩, Nat.le_of_ble_eq_true rfl⟩
theorem wi_X10_canGo : Cond.instanceMethod (mi_X10_canGo).1 ∈ sm_Tg := sg_8 (i := 68) rfl rfl
theorem wv_X10_canGo : Cond.selects (mi_X10_canGo).1.cls (mi_X10_canGo).1 (mi_X10_canGo).1 ∈ sm_Tg := sg_P (i := 98) rfl rfl
theorem wm_X10_movesOf : sm_mi mi_X10_movesOf 1 := ⟨sg_8 (i := 61) rfl rfl, wini_10, rfl, ⟨wcl_10.1, wcl_10.2, by decide +kernel⟩, Nat.le_of_ble_eq_true rfl⟩
theorem wi_X10_movesOf : Cond.instanceMethod (mi_X10_movesOf).1 ∈ sm_Tg := sg_8 (i := 60) rfl rfl
theorem wv_X10_movesOf : Cond.selects (mi_X10_movesOf).1.cls (mi_X10_movesOf).1 (mi_X10_movesOf).1 ∈ sm_Tg := sg_P (i := 96) rfl rfl
theorem wm_X10_hasMove : sm_mi mi_X10_hasMove 0 := ⟨sg_8 (i := 53) rfl rfl, wini_10, rfl, ⟨wcl_10.1, wcl_10.2, by decide +kernel⟩, Nat.le_of_ble_eq_true rfl⟩
theorem wi_X10_hasMove : Cond.instanceMethod (mi_X10_hasMove).1 ∈ sm_Tg := sg_8 (i := 52) rfl rfl
theorem wv_X10_hasMove : Cond.selects (mi_X10_hasMove).1.cls (mi_X10_hasMove).1 (mi_X10_hasMove).1 ∈ sm_Tg := sg_P (i := 94) rfl rfl
theorem wm_X10_isCrownTaken : sm_mi mi_X10_isCrownTaken 0 := ⟨sg_8 (i := 29) rfl rfl, wini_10, rfl, ⟨wcl_10.1, wcl_10.2, by decide +kernel⟩, Nat.le_of_ble_eq_true rfl⟩
theorem wi_X10_isCrownTaken : Cond.instanceMethod (mi_X10_isCrownTaken).1 ∈ sm_Tg := sg_8 (i := 28) rfl rfl
theorem wv_X10_isCrownTaken : Cond.selects (mi_X10_isCrownTaken).1.cls (mi_X10_isCrownTaken).1 (mi_X10_isCrownTaken).1 ∈ sm_Tg := sg_P (i := 88) rfl rfl
theorem wm_X10_isOver : sm_mi mi_X10_isOver 0 := ⟨sg_8 (i := 25) rfl rfl, wini_10, rfl, ⟨wcl_10.1, wcl_10.2, by decide +kernel⟩, Nat.le_of_ble_eq_true rfl⟩
theorem wi_X10_isOver : Cond.instanceMethod (mi_X10_isOver).1 ∈ sm_Tg := sg_8 (i := 24) rfl rfl
theorem wv_X10_isOver : Cond.selects (mi_X10_isOver).1.cls (mi_X10_isOver).1 (mi_X10_isOver).1 ∈ sm_Tg := sg_P (i := 87) rfl rfl
theorem wm_X10_does : sm_mi mi_X10_does 3 := ⟨sg_8 (i := 146) rfl rfl, wini_10, rfl, ⟨wcl_10.1, wcl_10.2, by decide +kernel⟩, Nat.le_of_ble_eq_true rfl⟩
theorem wi_X10_does : Cond.instanceMethod (mi_X10_does).1 ∈ sm_Tg := sg_8 (i := 145) rfl rfl
theorem wv_X10_does : Cond.selects (mi_X10_does).1.cls (mi_X10_does).1 (mi_X10_does).1 ∈ sm_Tg := sg_P (i := 108) rfl rfl
theorem wm_X10_undoes : sm_mi mi_X10_undoes 1 := ⟨sg_8 (i := 154) rfl rfl, wini_10, rfl, ⟨wcl_10.1, wcl_10.2, by decide +kernel⟩, Nat.le_of_ble_eq_true rfl⟩
theorem wi_X10_undoes : Cond.instanceMethod (mi_X10_undoes).1 ∈ sm_Tg := sg_8 (i := 153) rfl rfl
theorem wv_X10_undoes : Cond.selects (mi_X10_undoes).1.cls (mi_X10_undoes).1 (mi_X10_undoes).1 ∈ sm_Tg := sg_P (i := 110) rfl rfl
theorem wm_X10_balanceOf : sm_mi mi_X10_balanceOf 1 := ⟨sg_8 (i := 166) rfl rfl, wini_10, rfl, ⟨wcl_10.1, wcl_10.2, by decide +kernel⟩, Nat.le_of_ble_eq_true rfl⟩
theorem wi_X10_balanceOf : Cond.instanceMethod (mi_X10_balanceOf).1 ∈ sm_Tg := sg_8 (i := 165) rfl rfl
theorem wv_X10_balanceOf : Cond.selects (mi_X10_balanceOf).1.cls (mi_X10_balanceOf).1 (mi_X10_balanceOf).1 ∈ sm_Tg := sg_P (i := 111) rfl rfl
theorem wm_X10_value0 : sm_mi mi_X10_value0 0 := ⟨sg_8 (i := 183) rfl rfl, wini_10, rfl, ⟨wcl_10.1, wcl_10.2, by decide +kernel⟩, Nat.le_of_ble_eq_true rfl⟩
theorem wi_X10_value0 : Cond.instanceMethod (mi_X10_value0).1 ∈ sm_Tg := sg_8 (i := 182) rfl rfl
theorem wv_X10_value0 : Cond.selects (mi_X10_value0).1.cls (mi_X10_value0).1 (mi_X10_value0).1 ∈ sm_Tg := sg_P (i := 114) rfl rfl
theorem wm_X10_value1 : sm_mi mi_X10_value1 0 := ⟨sg_8 (i := 187) rfl rfl, wini_10, rfl, ⟨wcl_10.1, wcl_10.2, by decide +kernel⟩, Nat.le_of_ble_eq_true rfl⟩
theorem wi_X10_value1 : Cond.instanceMethod (mi_X10_value1).1 ∈ sm_Tg := sg_8 (i := 186) rfl rfl
theorem wv_X10_value1 : Cond.selects (mi_X10_value1).1.cls (mi_X10_value1).1 (mi_X10_value1).1 ∈ sm_Tg := sg_P (i := 115) rfl rfl
theorem wm_X10_value2 : sm_mi mi_X10_value2 0 := ⟨sg_8 (i := 191) rfl rfl, wini_10, rfl, ⟨wcl_10.1, wcl_10.2, by decide +kernel⟩, Nat.le_of_ble_eq_true rfl⟩
theorem wi_X10_value2 : Cond.instanceMethod (mi_X10_value2).1 ∈ sm_Tg := sg_8 (i := 190) rfl rfl
theorem wv_X10_value2 : Cond.selects (mi_X10_value2).1.cls (mi_X10_value2).1 (mi_X10_value2).1 ∈ sm_Tg := sg_P (i := 116) rfl rfl
theorem wm_X10_value3 : sm_mi mi_X10_value3 0 := ⟨sg_8 (i := 195) rfl rfl, wini_10, rfl, ⟨wcl_10.1, wcl_10.2, by decide +kernel⟩, Nat.le_of_ble_eq_true rfl⟩
theorem wi_X10_value3 : Cond.instanceMethod (mi_X10_value3).1 ∈ sm_Tg := sg_8 (i := 194) rfl rfl
theorem wv_X10_value3 : Cond.selects (mi_X10_value3).1.cls (mi_X10_value3).1 (mi_X10_value3).1 ∈ sm_Tg := sg_P (i := 117) rfl rfl
theorem wm_X10_valueBy : sm_mi mi_X10_valueBy 1 := ⟨sg_8 (i := 179) rfl rfl, wini_10, rfl, ⟨wcl_10.1, wcl_10.2, by decide +kernel⟩, Nat.le_of_ble_eq_true rfl⟩
theorem wi_X10_valueBy : Cond.instanceMethod (mi_X10_valueBy).1 ∈ sm_Tg := sg_8 (i := 178) rfl rfl
theorem wv_X10_valueBy : Cond.selects (mi_X10_valueBy).1.cls (mi_X10_valueBy).1 (mi_X10_valueBy).1 ∈ sm_Tg := sg_P (i := 113) rfl rfl
theorem wm_X10_choosesBest : sm_mi mi_X10_choosesBest 1 := ⟨sg_8 (i := 203) rfl rfl, wini_10, rfl, ⟨wcl_10.1, wcl_10.2, by decide +kernel⟩, Nat.le_of_ble_eq_true rfl⟩
theorem wi_X10_choosesBest : Cond.instanceMethod (mi_X10_choosesBest).1 ∈ sm_Tg := sg_8 (i := 202) rfl rfl
theorem wv_X10_choosesBest : Cond.selects (mi_X10_choosesBest).1.cls (mi_X10_choosesBest).1 (mi_X10_choosesBest).1 ∈ sm_Tg := sg_P (i := 118) rfl rfl
theorem wm_X10_chooses : sm_mi mi_X10_chooses 1 := ⟨sg_8 (i := 142) rfl rfl, wini_10, rfl, ⟨wcl_10.1, wcl_10.2, by decide +kernel⟩, Nat.le_of_ble_eq_true rfl⟩
theorem wi_X10_chooses : Cond.instanceMethod (mi_X10_chooses).1 ∈ sm_Tg := sg_8 (i := 141) rfl rfl
theorem wv_X10_chooses : Cond.selects (mi_X10_chooses).1.cls (mi_X10_chooses).1 (mi_X10_chooses).1 ∈ sm_Tg := sg_P (i := 107) rfl rfl
theorem wm_X10_movesNow : sm_mi mi_X10_movesNow 0 := ⟨sg_9 (i := 51) rfl rfl, wini_10, rfl, ⟨wcl_10.1, wcl_10.2, by decide +kernel⟩, Nat.le_of_ble_eq_true rfl⟩
theorem wi_X10_movesNow : Cond.instanceMethod (mi_X10_movesNow).1 ∈ sm_Tg := sg_9 (i := 50) rfl rfl
theorem wv_X10_movesNow : Cond.selects (mi_X10_movesNow).1.cls (mi_X10_movesNow).1 (mi_X10_movesNow).1 ∈ sm_Tg := sg_P (i := 134) rfl rfl
theorem wm_X10_isCheck : sm_mi mi_X10_isCheck 1 := ⟨sg_8 (i := 150) rfl rfl, wini_10, rfl, ⟨wcl_10.1, wcl_10.2, by decide +kernel⟩, Nat.le_of_ble_eq_true rfl⟩
theorem wi_X10_isCheck : Cond.instanceMethod (mi_X10_isCheck).1 ∈ sm_Tg := sg_8 (i := 149) rfl rfl
theorem wv_X10_isCheck : Cond.selects (mi_X10_isCheck).1.cls (mi_X10_isCheck).1 (mi_X10_isCheck).1 ∈ sm_Tg := sg_P (i := 109) rfl rfl
theorem wm_X10_harmAt : sm_mi mi_X10_harmAt 4 := ⟨sg_9 (i := 7) rfl rfl, wini_10, rfl, ⟨wcl_10.1, wcl_10.2, by decide +kernel⟩, Nat.le_of_ble_eq_true rfl⟩
theorem wi_X10_harmAt : Cond.instanceMethod (mi_X10_harmAt).1 ∈ sm_Tg := sg_9 (i := 6) rfl rfl
theorem wv_X10_harmAt : Cond.selects (mi_X10_harmAt).1.cls (mi_X10_harmAt).1 (mi_X10_harmAt).1 ∈ sm_Tg := sg_P (i := 127) rfl rfl
theorem wm_X10_isKept : sm_mi mi_X10_isKept 0 := ⟨sg_9 (i := 31) rfl rfl, wini_10, rfl, ⟨wcl_10.1, wcl_10.2, by decide +kernel⟩, Nat.le_of_ble_eq_true rfl⟩
theorem wi_X10_isKept : Cond.instanceMethod (mi_X10_isKept).1 ∈ sm_Tg := sg_9 (i := 30) rfl rfl
theorem wv_X10_isKept : Cond.selects (mi_X10_isKept).1.cls (mi_X10_isKept).1 (mi_X10_isKept).1 ∈ sm_Tg := sg_P (i := 131) rfl rfl
theorem wm_X10_playsChosen : sm_mi mi_X10_playsChosen 0 := ⟨sg_9 (i := 3) rfl rfl, wini_10, rfl, ⟨wcl_10.1, wcl_10.2, by decide +kernel⟩, Nat.le_of_ble_eq_true rfl⟩
theorem wi_X10_playsChosen : Cond.instanceMethod (mi_X10_playsChosen).1 ∈ sm_Tg := sg_9 (i := 2) rfl rfl
theorem wv_X10_playsChosen : Cond.selects (mi_X10_playsChosen).1.cls (mi_X10_playsChosen).1 (mi_X10_playsChosen).1 ∈ sm_Tg := sg_P (i := 126) rfl rfl
theorem wm_X10_laysHarms : sm_mi mi_X10_laysHarms 0 := ⟨sg_9 (i := 59) rfl rfl, wini_10, rfl, ⟨wcl_10.1, wcl_10.2, by decide +kernel⟩, Nat.le_of_ble_eq_true rfl⟩
theorem wi_X10_laysHarms : Cond.instanceMethod (mi_X10_laysHarms).1 ∈ sm_Tg := sg_9 (i := 58) rfl rfl
theorem wv_X10_laysHarms : Cond.selects (mi_X10_laysHarms).1.cls (mi_X10_laysHarms).1 (mi_X10_laysHarms).1 ∈ sm_Tg := sg_P (i := 135) rfl rfl
theorem wm_X10_dayGoes : sm_mi mi_X10_dayGoes 0 := ⟨sg_8 (i := 239) rfl rfl, wini_10, rfl, ⟨wcl_10.1, wcl_10.2, by decide +kernel⟩, Nat.le_of_ble_eq_true rfl⟩
theorem wi_X10_dayGoes : Cond.instanceMethod (mi_X10_dayGoes).1 ∈ sm_Tg := sg_8 (i := 238) rfl rfl
theorem wv_X10_dayGoes : Cond.selects (mi_X10_dayGoes).1.cls (mi_X10_dayGoes).1 (mi_X10_dayGoes).1 ∈ sm_Tg := sg_P (i := 125) rfl rfl
theorem wm_X10_choosesToday : sm_mi mi_X10_choosesToday 0 := ⟨sg_8 (i := 235) rfl rfl, wini_10, rfl, ⟨wcl_10.1, wcl_10.2, by decide +kernel⟩, Nat.le_of_ble_eq_true rfl⟩
theorem wi_X10_choosesToday : Cond.instanceMethod (mi_X10_choosesToday).1 ∈ sm_Tg := sg_8 (i := 234) rfl rfl
theorem wv_X10_choosesToday : Cond.selects (mi_X10_choosesToday).1.cls (mi_X10_choosesToday).1 (mi_X10_choosesToday).1 ∈ sm_Tg := sg_P (i := 124) rfl rfl
theorem wm_X10_daysGo : sm_mi mi_X10_daysGo 1 := ⟨sg_8 (i := 231) rfl rfl, wini_10, rfl, ⟨wcl_10.1, wcl_10.2, by decide +kernel⟩, Nat.le_of_ble_eq_true rfl⟩
theorem wi_X10_daysGo : Cond.instanceMethod (mi_X10_daysGo).1 ∈ sm_Tg := sg_8 (i := 230) rfl rfl
theorem wv_X10_daysGo : Cond.selects (mi_X10_daysGo).1.cls (mi_X10_daysGo).1 (mi_X10_daysGo).1 ∈ sm_Tg := sg_P (i := 123) rfl rfl
theorem wm_X10_putsAside : sm_mi mi_X10_putsAside 0 := ⟨sg_8 (i := 227) rfl rfl, wini_10, rfl, ⟨wcl_10.1, wcl_10.2, by decide +kernel⟩, Nat.le_of_ble_eq_true rfl⟩
theorem wi_X10_putsAside : Cond.instanceMethod (mi_X10_putsAside).1 ∈ sm_Tg := sg_8 (i := 226) rfl rfl
theorem wv_X10_putsAside : Cond.selects (mi_X10_putsAside).1.cls (mi_X10_putsAside).1 (mi_X10_putsAside).1 ∈ sm_Tg := sg_P (i := 122) rfl rfl
theorem wm_X10_triesAnew : sm_mi mi_X10_triesAnew 0 := ⟨sg_9 (i := 39) rfl rfl, wini_10, rfl, ⟨wcl_10.1, wcl_10.2, by decide +kernel⟩, Nat.le_of_ble_eq_true rfl⟩
theorem wi_X10_triesAnew : Cond.instanceMethod (mi_X10_triesAnew).1 ∈ sm_Tg := sg_9 (i := 38) rfl rfl
theorem wv_X10_triesAnew : Cond.selects (mi_X10_triesAnew).1.cls (mi_X10_triesAnew).1 (mi_X10_triesAnew).1 ∈ sm_Tg := sg_P (i := 133) rfl rfl
theorem wm_X10_takesBack : sm_mi mi_X10_takesBack 0 := ⟨sg_9 (i := 35) rfl rfl, wini_10, rfl, ⟨wcl_10.1, wcl_10.2, by decide +kernel⟩, Nat.le_of_ble_eq_true rfl⟩
theorem wi_X10_takesBack : Cond.instanceMethod (mi_X10_takesBack).1 ∈ sm_Tg := sg_9 (i := 34) rfl rfl
theorem wv_X10_takesBack : Cond.selects (mi_X10_takesBack).1.cls (mi_X10_takesBack).1 (mi_X10_takesBack).1 ∈ sm_Tg := sg_P (i := 132) rfl rfl
theorem wm_X10_isAhead : sm_mi mi_X10_isAhead 3 := ⟨sg_8 (i := 223) rfl rfl, wini_10, rfl, ⟨wcl_10.1, wcl_10.2, by decide +kernel⟩, Nat.le_of_ble_eq_true rfl⟩
theorem wi_X10_isAhead : Cond.instanceMethod (mi_X10_isAhead).1 ∈ sm_Tg := sg_8 (i := 222) rfl rfl
theorem wv_X10_isAhead : Cond.selects (mi_X10_isAhead).1.cls (mi_X10_isAhead).1 (mi_X10_isAhead).1 ∈ sm_Tg := sg_P (i := 121) rfl rfl
theorem wm_X10_bearAll : sm_mi mi_X10_bearAll 0 := ⟨sg_8 (i := 98) rfl rfl, wini_10, rfl, ⟨wcl_10.1, wcl_10.2, by decide +kernel⟩, Nat.le_of_ble_eq_true rfl⟩
theorem wi_X10_bearAll : Cond.instanceMethod (mi_X10_bearAll).1 ∈ sm_Tg := sg_8 (i := 97) rfl rfl
theorem wv_X10_bearAll : Cond.selects (mi_X10_bearAll).1.cls (mi_X10_bearAll).1 (mi_X10_bearAll).1 ∈ sm_Tg := sg_P (i := 103) rfl rfl
theorem wm_X10_menOf : sm_mi mi_X10_menOf 1 := ⟨sg_8 (i := 94) rfl rfl, wini_10, rfl, ⟨wcl_10.1, wcl_10.2, by decide +kernel⟩, Nat.le_of_ble_eq_true rfl⟩
theorem wi_X10_menOf : Cond.instanceMethod (mi_X10_menOf).1 ∈ sm_Tg := sg_8 (i := 93) rfl rfl
theorem wv_X10_menOf : Cond.selects (mi_X10_menOf).1.cls (mi_X10_menOf).1 (mi_X10_menOf).1 ∈ sm_Tg := sg_P (i := 102) rfl rfl
theorem wm_X10_has : sm_mi mi_X10_has 1 := ⟨sg_8 (i := 21) rfl rfl, wini_10, rfl, ⟨wcl_10.1, wcl_10.2, by decide +kernel⟩, Nat.le_of_ble_eq_true rfl⟩
theorem wi_X10_has : Cond.instanceMethod (mi_X10_has).1 ∈ sm_Tg := sg_8 (i := 19) rfl rfl
theorem wv_X10_has : Cond.selects (mi_X10_has).1.cls (mi_X10_has).1 (mi_X10_has).1 ∈ sm_Tg := sg_8 (i := 20) rfl rfl
theorem wm_X10_letter : sm_mi mi_X10_letter 3 := ⟨sg_8 (i := 106) rfl rfl, wini_10, rfl, ⟨wcl_10.1, wcl_10.2, by decide +kernel⟩, Nat.le_of_ble_eq_true rfl⟩
theorem wi_X10_letter : Cond.instanceMethod (mi_X10_letter).1 ∈ sm_Tg := sg_8 (i := 104) rfl rfl
theorem wv_X10_letter : Cond.selects (mi_X10_letter).1.cls (mi_X10_letter).1 (mi_X10_letter).1 ∈ sm_Tg := sg_8 (i := 105) rfl rfl
theorem wm_X10_kind : sm_mi mi_X10_kind 2 := ⟨sg_8 (i := 112) rfl rfl, wini_10, rfl, ⟨wcl_10.1, wcl_10.2, by decide +kernel⟩, Nat.le_of_ble_eq_true rfl⟩
theorem wi_X10_kind : Cond.instanceMethod (mi_X10_kind).1 ∈ sm_Tg := sg_8 (i := 110) rfl rfl
theorem wv_X10_kind : Cond.selects (mi_X10_kind).1.cls (mi_X10_kind).1 (mi_X10_kind).1 ∈ sm_Tg := sg_8 (i := 111) rfl rfl
theorem wm_X10_man : sm_mi mi_X10_man 2 := ⟨sg_8 (i := 117) rfl rfl, wini_10, rfl, ⟨wcl_10.1, wcl_10.2, by decide +kernel⟩, Nat.le_of_ble_eq_true rfl⟩
theorem wi_X10_man : Cond.instanceMethod (mi_X10_man).1 ∈ sm_Tg := sg_8 (i := 115) rfl rfl
theorem wv_X10_man : Cond.selects (mi_X10_man).1.cls (mi_X10_man).1 (mi_X10_man).1 ∈ sm_Tg := sg_8 (i := 116) rfl rfl
theorem wm_X10_field : sm_mi mi_X10_field 2 := ⟨sg_8 (i := 125) rfl rfl, wini_10, rfl, ⟨wcl_10.1, wcl_10.2, by decide +kernel⟩, Nat.le_of_ble_eq_true rfl⟩
theorem wi_X10_field : Cond.instanceMethod (mi_X10_field).1 ∈ sm_Tg := sg_8 (i := 123) rfl rfl
theorem wv_X10_field : Cond.selects (mi_X10_field).1.cls (mi_X10_field).1 (mi_X10_field).1 ∈ sm_Tg := sg_8 (i := 124) rfl rfl
theorem wm_X10_at : sm_mi mi_X10_at 2 := ⟨sg_8 (i := 133) rfl rfl, wini_10, rfl, ⟨wcl_10.1, wcl_10.2, by decide +kernel⟩, Nat.le_of_ble_eq_true rfl⟩
theorem wi_X10_at : Cond.instanceMethod (mi_X10_at).1 ∈ sm_Tg := sg_8 (i := 131) rfl rfl
theorem wv_X10_at : Cond.selects (mi_X10_at).1.cls (mi_X10_at).1 (mi_X10_at).1 ∈ sm_Tg := sg_8 (i := 132) rfl rfl
theorem wm_X10_option : sm_mi mi_X10_option 2 := ⟨sg_8 (i := 137) rfl rfl, wini_10, rfl, ⟨wcl_10.1, wcl_10.2, by decide +kernel⟩, Nat.le_of_ble_eq_true rfl⟩
theorem wi_X10_option : Cond.instanceMethod (mi_X10_option).1 ∈ sm_Tg := sg_8 (i := 135) rfl rfl
theorem wv_X10_option : Cond.selects (mi_X10_option).1.cls (mi_X10_option).1 (mi_X10_option).1 ∈ sm_Tg := sg_8 (i := 136) rfl rfl
theorem wm_X10_kept : sm_mi mi_X10_kept 2 := ⟨sg_8 (i := 158) rfl rfl, wini_10, rfl, ⟨wcl_10.1, wcl_10.2, by decide +kernel⟩, Nat.le_of_ble_eq_true rfl⟩
theorem wi_X10_kept : Cond.instanceMethod (mi_X10_kept).1 ∈ sm_Tg := sg_8 (i := 156) rfl rfl
theorem wv_X10_kept : Cond.selects (mi_X10_kept).1.cls (mi_X10_kept).1 (mi_X10_kept).1 ∈ sm_Tg := sg_8 (i := 157) rfl rfl
theorem wm_X10_balance : sm_mi mi_X10_balance 1 := ⟨sg_8 (i := 162) rfl rfl, wini_10, rfl, ⟨wcl_10.1, wcl_10.2, by decide +kernel⟩, Nat.le_of_ble_eq_true rfl⟩
theorem wi_X10_balance : Cond.instanceMethod (mi_X10_balance).1 ∈ sm_Tg := sg_8 (i := 160) rfl rfl
theorem wv_X10_balance : Cond.selects (mi_X10_balance).1.cls (mi_X10_balance).1 (mi_X10_balance).1 ∈ sm_Tg := sg_8 (i := 161) rfl rfl
theorem wm_X10_value : sm_mi mi_X10_value 1 := ⟨sg_8 (i := 175) rfl rfl, wini_10, rfl, ⟨wcl_10.1, wcl_10.2, by decide +kernel⟩, Nat.le_of_ble_eq_true rfl⟩
theorem wi_X10_value : Cond.instanceMethod (mi_X10_value).1 ∈ sm_Tg := sg_8 (i := 173) rfl rfl
theorem wv_X10_value : Cond.selects (mi_X10_value).1.cls (mi_X10_value).1 (mi_X10_value).1 ∈ sm_Tg := sg_8 (i := 174) rfl rfl
theorem wm_X10_best : sm_mi mi_X10_best 1 := ⟨sg_8 (i := 199) rfl rfl, wini_10, rfl, ⟨wcl_10.1, wcl_10.2, by decide +kernel⟩, Nat.le_of_ble_eq_true rfl⟩
theorem wi_X10_best : Cond.instanceMethod (mi_X10_best).1 ∈ sm_Tg := sg_8 (i := 197) rfl rfl
theorem wv_X10_best : Cond.selects (mi_X10_best).1.cls (mi_X10_best).1 (mi_X10_best).1 ∈ sm_Tg := sg_8 (i := 198) rfl rfl
theorem wm_X10_takesCrown : sm_mi mi_X10_takesCrown 0 := ⟨sg_8 (i := 211) rfl rfl, wini_10, rfl, ⟨wcl_10.1, wcl_10.2, by decide +kernel⟩, Nat.le_of_ble_eq_true rfl⟩
theorem wi_X10_takesCrown : Cond.instanceMethod (mi_X10_takesCrown).1 ∈ sm_Tg := sg_8 (i := 210) rfl rfl
theorem wv_X10_takesCrown : Cond.selects (mi_X10_takesCrown).1.cls (mi_X10_takesCrown).1 (mi_X10_takesCrown).1 ∈ sm_Tg := sg_P (i := 119) rfl rfl
theorem wm_X10_isForcedNow : sm_mi mi_X10_isForcedNow 0 := ⟨sg_8 (i := 215) rfl rfl, wini_10, rfl, ⟨wcl_10.1, wcl_10.2, by decide +kernel⟩, Nat.le_of_ble_eq_true rfl⟩
theorem wi_X10_isForcedNow : Cond.instanceMethod (mi_X10_isForcedNow).1 ∈ sm_Tg := sg_8 (i := 214) rfl rfl
theorem wv_X10_isForcedNow : Cond.selects (mi_X10_isForcedNow).1.cls (mi_X10_isForcedNow).1 (mi_X10_isForcedNow).1 ∈ sm_Tg := sg_P (i := 120) rfl rfl
theorem wm_X10_forced : sm_mi mi_X10_forced 0 := ⟨sg_8 (i := 207) rfl rfl, wini_10, rfl, ⟨wcl_10.1, wcl_10.2, by decide +kernel⟩, Nat.le_of_ble_eq_true rfl⟩
theorem wi_X10_forced : Cond.instanceMethod (mi_X10_forced).1 ∈ sm_Tg := sg_8 (i := 205) rfl rfl
theorem wv_X10_forced : Cond.selects (mi_X10_forced).1.cls (mi_X10_forced).1 (mi_X10_forced).1 ∈ sm_Tg := sg_8 (i := 206) rfl rfl
theorem wm_X10_later : sm_mi mi_X10_later 2 := ⟨sg_8 (i := 219) rfl rfl, wini_10, rfl, ⟨wcl_10.1, wcl_10.2, by decide +kernel⟩, Nat.le_of_ble_eq_true rfl⟩
theorem wi_X10_later : Cond.instanceMethod (mi_X10_later).1 ∈ sm_Tg := sg_8 (i := 217) rfl rfl
theorem wv_X10_later : Cond.selects (mi_X10_later).1.cls (mi_X10_later).1 (mi_X10_later).1 ∈ sm_Tg := sg_8 (i := 218) rfl rfl
theorem wm_X10_crop : sm_mi mi_X10_crop 2 := ⟨sg_9 (i := 43) rfl rfl, wini_10, rfl, ⟨wcl_10.1, wcl_10.2, by decide +kernel⟩, Nat.le_of_ble_eq_true rfl⟩
theorem wi_X10_crop : Cond.instanceMethod (mi_X10_crop).1 ∈ sm_Tg := sg_9 (i := 41) rfl rfl
theorem wv_X10_crop : Cond.selects (mi_X10_crop).1.cls (mi_X10_crop).1 (mi_X10_crop).1 ∈ sm_Tg := sg_9 (i := 42) rfl rfl
theorem wm_X10_spare : sm_mi mi_X10_spare 3 := ⟨sg_9 (i := 47) rfl rfl, wini_10, rfl, ⟨wcl_10.1, wcl_10.2, by decide +kernel⟩, Nat.le_of_ble_eq_true rfl⟩
theorem wi_X10_spare : Cond.instanceMethod (mi_X10_spare).1 ∈ sm_Tg := sg_9 (i := 45) rfl rfl
theorem wv_X10_spare : Cond.selects (mi_X10_spare).1.cls (mi_X10_spare).1 (mi_X10_spare).1 ∈ sm_Tg := sg_9 (i := 46) rfl rfl
theorem wm_X10_sow : sm_mi mi_X10_sow 2 := ⟨sg_9 (i := 55) rfl rfl, wini_10, rfl, ⟨wcl_10.1, wcl_10.2, by decide +kernel⟩, Nat.le_of_ble_eq_true rfl⟩
theorem wi_X10_sow : Cond.instanceMethod (mi_X10_sow).1 ∈ sm_Tg := sg_9 (i := 53) rfl rfl
theorem wv_X10_sow : Cond.selects (mi_X10_sow).1.cls (mi_X10_sow).1 (mi_X10_sow).1 ∈ sm_Tg := sg_9 (i := 54) rfl rfl
theorem wm_X10_deeper : sm_mi mi_X10_deeper 3 := ⟨sg_9 (i := 65) rfl rfl, wini_10, rfl, ⟨wcl_10.1, wcl_10.2, by decide +kernel⟩, Nat.le_of_ble_eq_true rfl⟩
theorem wi_X10_deeper : Cond.instanceMethod (mi_X10_deeper).1 ∈ sm_Tg := sg_9 (i := 63) rfl rfl
theorem wv_X10_deeper : Cond.selects (mi_X10_deeper).1.cls (mi_X10_deeper).1 (mi_X10_deeper).1 ∈ sm_Tg := sg_9 (i := 64) rfl rfl
theorem wm_X10_refuses : sm_mi mi_X10_refuses 1 := ⟨sg_9 (i := 73) rfl rfl, wini_10, rfl, ⟨wcl_10.1, wcl_10.2, by decide +kernel⟩, Nat.le_of_ble_eq_true rfl⟩
theorem wi_X10_refuses : Cond.instanceMethod (mi_X10_refuses).1 ∈ sm_Tg := sg_9 (i := 72) rfl rfl
theorem wv_X10_refuses : Cond.selects (mi_X10_refuses).1.cls (mi_X10_refuses).1 (mi_X10_refuses).1 ∈ sm_Tg := sg_P (i := 136) rfl rfl
theorem wm_X10_see : sm_mi mi_X10_see 0 := ⟨sg_9 (i := 69) rfl rfl, wini_10, rfl, ⟨wcl_10.1, wcl_10.2, by decide +kernel⟩, Nat.le_of_ble_eq_true rfl⟩
theorem wi_X10_see : Cond.instanceMethod (mi_X10_see).1 ∈ sm_Tg := sg_9 (i := 67) rfl rfl
theorem wv_X10_see : Cond.selects (mi_X10_see).1.cls (mi_X10_see).1 (mi_X10_see).1 ∈ sm_Tg := sg_9 (i := 68) rfl rfl
theorem wm_X10_isAsSeen : sm_mi mi_X10_isAsSeen 0 := ⟨sg_9 (i := 81) rfl rfl, wini_10, rfl, ⟨wcl_10.1, wcl_10.2, by decide +kernel⟩, Nat.le_of_ble_eq_true rfl⟩
theorem wi_X10_isAsSeen : Cond.instanceMethod (mi_X10_isAsSeen).1 ∈ sm_Tg := sg_9 (i := 80) rfl rfl
theorem wv_X10_isAsSeen : Cond.selects (mi_X10_isAsSeen).1.cls (mi_X10_isAsSeen).1 (mi_X10_isAsSeen).1 ∈ sm_Tg := sg_P (i := 137) rfl rfl
theorem wm_X10_played : sm_mi mi_X10_played 1 := ⟨sg_9 (i := 77) rfl rfl, wini_10, rfl, ⟨wcl_10.1, wcl_10.2, by decide +kernel⟩, Nat.le_of_ble_eq_true rfl⟩
theorem wi_X10_played : Cond.instanceMethod (mi_X10_played).1 ∈ sm_Tg := sg_9 (i := 75) rfl rfl
theorem wv_X10_played : Cond.selects (mi_X10_played).1.cls (mi_X10_played).1 (mi_X10_played).1 ∈ sm_Tg := sg_9 (i := 76) rfl rfl
theorem wm_X10_ways0 : sm_mi mi_X10_ways0 0 := ⟨sg_9 (i := 93) rfl rfl, wini_10, rfl, ⟨wcl_10.1, wcl_10.2, by decide +kernel⟩, Nat.le_of_ble_eq_true rfl⟩
theorem wi_X10_ways0 : Cond.instanceMethod (mi_X10_ways0).1 ∈ sm_Tg := sg_9 (i := 92) rfl rfl
theorem wv_X10_ways0 : Cond.selects (mi_X10_ways0).1.cls (mi_X10_ways0).1 (mi_X10_ways0).1 ∈ sm_Tg := sg_P (i := 139) rfl rfl
theorem wm_X10_ways1 : sm_mi mi_X10_ways1 0 := ⟨sg_9 (i := 97) rfl rfl, wini_10, rfl, ⟨wcl_10.1, wcl_10.2, by decide +kernel⟩, Nat.le_of_ble_eq_true rfl⟩
theorem wi_X10_ways1 : Cond.instanceMethod (mi_X10_ways1).1 ∈ sm_Tg := sg_9 (i := 96) rfl rfl
theorem wv_X10_ways1 : Cond.selects (mi_X10_ways1).1.cls (mi_X10_ways1).1 (mi_X10_ways1).1 ∈ sm_Tg := sg_P (i := 140) rfl rfl
theorem wm_X10_ways2 : sm_mi mi_X10_ways2 0 := ⟨sg_9 (i := 101) rfl rfl, wini_10, rfl, ⟨wcl_10.1, wcl_10.2, by decide +kernel⟩, Nat.le_of_ble_eq_true rfl⟩
theorem wi_X10_ways2 : Cond.instanceMethod (mi_X10_ways2).1 ∈ sm_Tg := sg_9 (i := 100) rfl rfl
theorem wv_X10_ways2 : Cond.selects (mi_X10_ways2).1.cls (mi_X10_ways2).1 (mi_X10_ways2).1 ∈ sm_Tg := sg_P (i := 141) rfl rfl
theorem wm_X10_ways3 : sm_mi mi_X10_ways3 0 := ⟨sg_9 (i := 105) rfl rfl, wini_10, rfl, ⟨wcl_10.1, wcl_10.2, by decide +kernel⟩, Nat.le_of_ble_eq_true rfl⟩
theorem wi_X10_ways3 : Cond.instanceMethod (mi_X10_ways3).1 ∈ sm_Tg := sg_9 (i := 104) rfl rfl
theorem wv_X10_ways3 : Cond.selects (mi_X10_ways3).1.cls (mi_X10_ways3).1 (mi_X10_ways3).1 ∈ sm_Tg := sg_P (i := 142) rfl rfl
theorem wm_X10_areMen : sm_mi mi_X10_areMen 1 := ⟨sg_9 (i := 89) rfl rfl, wini_10, rfl, ⟨wcl_10.1, wcl_10.2, by decide +kernel⟩, Nat.le_of_ble_eq_true rfl⟩
theorem wi_X10_areMen : Cond.instanceMethod (mi_X10_areMen).1 ∈ sm_Tg := sg_9 (i := 88) rfl rfl
theorem wv_X10_areMen : Cond.selects (mi_X10_areMen).1.cls (mi_X10_areMen).1 (mi_X10_areMen).1 ∈ sm_Tg := sg_P (i := 138) rfl rfl
theorem wm_X10_reached : sm_mi mi_X10_reached 1 := ⟨sg_9 (i := 85) rfl rfl, wini_10, rfl, ⟨wcl_10.1, wcl_10.2, by decide +kernel⟩, Nat.le_of_ble_eq_true rfl⟩
theorem wi_X10_reached : Cond.instanceMethod (mi_X10_reached).1 ∈ sm_Tg := sg_9 (i := 83) rfl rfl
theorem wv_X10_reached : Cond.selects (mi_X10_reached).1.cls (mi_X10_reached).1 (mi_X10_reached).1 ∈ sm_Tg := sg_9 (i := 84) rfl rfl
theorem wm_X10_keeps : sm_mi mi_X10_keeps 0 := ⟨sg_9 (i := 117) rfl rfl, wini_10, rfl, ⟨wcl_10.1, wcl_10.2, by decide +kernel⟩, Nat.le_of_ble_eq_true rfl⟩
theorem wi_X10_keeps : Cond.instanceMethod (mi_X10_keeps).1 ∈ sm_Tg := sg_9 (i := 116) rfl rfl
theorem wv_X10_keeps : Cond.selects (mi_X10_keeps).1.cls (mi_X10_keeps).1 (mi_X10_keeps).1 ∈ sm_Tg := sg_P (i := 143) rfl rfl
theorem wm_X10_undo : sm_mi mi_X10_undo 0 := ⟨sg_9 (i := 109) rfl rfl, wini_10, rfl, ⟨wcl_10.1, wcl_10.2, by decide +kernel⟩, Nat.le_of_ble_eq_true rfl⟩
theorem wi_X10_undo : Cond.instanceMethod (mi_X10_undo).1 ∈ sm_Tg := sg_9 (i := 107) rfl rfl
theorem wv_X10_undo : Cond.selects (mi_X10_undo).1.cls (mi_X10_undo).1 (mi_X10_undo).1 ∈ sm_Tg := sg_9 (i := 108) rfl rfl
theorem wm_X10_play : sm_mi mi_X10_play 1 := ⟨sg_9 (i := 113) rfl rfl, wini_10, rfl, ⟨wcl_10.1, wcl_10.2, by decide +kernel⟩, Nat.le_of_ble_eq_true rfl⟩
theorem wi_X10_play : Cond.instanceMethod (mi_X10_play).1 ∈ sm_Tg := sg_9 (i := 111) rfl rfl
theorem wv_X10_play : Cond.selects (mi_X10_play).1.cls (mi_X10_play).1 (mi_X10_play).1 ∈ sm_Tg := sg_9 (i := 112) rfl rfl
theorem wm_X10_tend : sm_mi mi_X10_tend 2 := ⟨sg_9 (i := 121) rfl rfl, wini_10, rfl, ⟨wcl_10.1, wcl_10.2, by decide +kernel⟩, Nat.le_of_ble_eq_true rfl⟩
theorem wi_X10_tend : Cond.instanceMethod (mi_X10_tend).1 ∈ sm_Tg := sg_9 (i := 119) rfl rfl
theorem wv_X10_tend : Cond.selects (mi_X10_tend).1.cls (mi_X10_tend).1 (mi_X10_tend).1 ∈ sm_Tg := sg_9 (i := 120) rfl rfl
theorem wm_X10_days : sm_mi mi_X10_days 1 := ⟨sg_9 (i := 126) rfl rfl, wini_10, rfl, ⟨wcl_10.1, wcl_10.2, by decide +kernel⟩, Nat.le_of_ble_eq_true rfl⟩
theorem wi_X10_days : Cond.instanceMethod (mi_X10_days).1 ∈ sm_Tg := sg_9 (i := 124) rfl rfl
theorem wv_X10_days : Cond.selects (mi_X10_days).1.cls (mi_X10_days).1 (mi_X10_days).1 ∈ sm_Tg := sg_9 (i := 125) rfl rfl
theorem wm_X10_seed : sm_mi mi_X10_seed 1 := ⟨sg_9 (i := 130) rfl rfl, wini_10, rfl, ⟨wcl_10.1, wcl_10.2, by decide +kernel⟩, Nat.le_of_ble_eq_true rfl⟩
theorem wi_X10_seed : Cond.instanceMethod (mi_X10_seed).1 ∈ sm_Tg := sg_9 (i := 128) rfl rfl
theorem wv_X10_seed : Cond.selects (mi_X10_seed).1.cls (mi_X10_seed).1 (mi_X10_seed).1 ∈ sm_Tg := sg_9 (i := 129) rfl rfl
theorem wm_X10_drawOf : sm_mi mi_X10_drawOf 1 := ⟨sg_9 (i := 138) rfl rfl, wini_10, rfl, ⟨wcl_10.1, wcl_10.2, by decide +kernel⟩, Nat.le_of_ble_eq_true rfl⟩
theorem wi_X10_drawOf : Cond.instanceMethod (mi_X10_drawOf).1 ∈ sm_Tg := sg_9 (i := 137) rfl rfl
theorem wv_X10_drawOf : Cond.selects (mi_X10_drawOf).1.cls (mi_X10_drawOf).1 (mi_X10_drawOf).1 ∈ sm_Tg := sg_P (i := 144) rfl rfl
theorem wm_X10_chance : sm_mi mi_X10_chance 1 := ⟨sg_9 (i := 134) rfl rfl, wini_10, rfl, ⟨wcl_10.1, wcl_10.2, by decide +kernel⟩, Nat.le_of_ble_eq_true rfl⟩
theorem wi_X10_chance : Cond.instanceMethod (mi_X10_chance).1 ∈ sm_Tg := sg_9 (i := 132) rfl rfl
theorem wv_X10_chance : Cond.selects (mi_X10_chance).1.cls (mi_X10_chance).1 (mi_X10_chance).1 ∈ sm_Tg := sg_9 (i := 133) rfl rfl
theorem wm_X10_qCode : sm_mi mi_X10_qCode 1 := ⟨sg_7 (i := 222) rfl rfl, wini_10, rfl, ⟨wcl_10.1, wcl_10.2, by decide +kernel⟩, Nat.le_of_ble_eq_true rfl⟩
theorem wi_X10_qCode : Cond.instanceMethod (mi_X10_qCode).1 ∈ sm_Tg := sg_7 (i := 221) rfl rfl
theorem wv_X10_qCode : Cond.selects (mi_X10_qCode).1.cls (mi_X10_qCode).1 (mi_X10_qCode).1 ∈ sm_Tg := sg_P (i := 79) rfl rfl
theorem wm_X10_qOpens : sm_mi mi_X10_qOpens 2 := ⟨sg_7 (i := 214) rfl rfl, wini_10, rfl, ⟨wcl_10.1, wcl_10.2, by decide +kernel⟩, Nat.le_of_ble_eq_true rfl⟩
theorem wi_X10_qOpens : Cond.instanceMethod (mi_X10_qOpens).1 ∈ sm_Tg := sg_7 (i := 213) rfl rfl
theorem wv_X10_qOpens : Cond.selects (mi_X10_qOpens).1.cls (mi_X10_qOpens).1 (mi_X10_qOpens).1 ∈ sm_Tg := sg_P (i := 77) rfl rfl
theorem wm_X10_qIsOn : sm_mi mi_X10_qIsOn 1 := ⟨sg_8 (i := 9) rfl rfl, wini_10, rfl, ⟨wcl_10.1, wcl_10.2, by decide +kernel⟩, Nat.le_of_ble_eq_true rfl⟩
theorem wi_X10_qIsOn : Cond.instanceMethod (mi_X10_qIsOn).1 ∈ sm_Tg := sg_8 (i := 8) rfl rfl
theorem wv_X10_qIsOn : Cond.selects (mi_X10_qIsOn).1.cls (mi_X10_qIsOn).1 (mi_X10_qIsOn).1 ∈ sm_Tg := sg_P (i := 85) rfl rfl
theorem wm_X10_qDrops : sm_mi mi_X10_qDrops 0 := ⟨sg_7 (i := 230) rfl rfl, wini_10, rfl, ⟨wcl_10.1, wcl_10.2, by decide +kernel⟩, Nat.le_of_ble_eq_true rfl⟩
theorem wi_X10_qDrops : Cond.instanceMethod (mi_X10_qDrops).1 ∈ sm_Tg := sg_7 (i := 229) rfl rfl
theorem wv_X10_qDrops : Cond.selects (mi_X10_qDrops).1.cls (mi_X10_qDrops).1 (mi_X10_qDrops).1 ∈ sm_Tg := sg_P (i := 81) rfl rfl
theorem wm_X10_qIsBracket : sm_mi mi_X10_qIsBracket 1 := ⟨sg_8 (i := 1) rfl rfl, wini_10, rfl, ⟨wcl_10.1, wcl_10.2, by decide +kernel⟩, Nat.le_of_ble_eq_true rfl⟩
theorem wt_X10_qIsBracket : Cond.static (mi_X10_qIsBracket).1 ∈ sm_Tg := sg_8 (i := 0) rfl rfl
theorem wm_X10_qBracket : sm_mi mi_X10_qBracket 0 := ⟨sg_7 (i := 238) rfl rfl, wini_10, rfl, ⟨wcl_10.1, wcl_10.2, by decide +kernel⟩, Nat.le_of_ble_eq_true rfl⟩
theorem wi_X10_qBracket : Cond.instanceMethod (mi_X10_qBracket).1 ∈ sm_Tg := sg_7 (i := 237) rfl rfl
theorem wv_X10_qBracket : Cond.selects (mi_X10_qBracket).1.cls (mi_X10_qBracket).1 (mi_X10_qBracket).1 ∈ sm_Tg := sg_P (i := 83) rfl rfl
theorem wm_X10_qDropsToBracket : sm_mi mi_X10_qDropsToBracket 0 := ⟨sg_8 (i := 5) rfl rfl, wini_10, rfl, ⟨wcl_10.1, wcl_10.2, by decide +kernel⟩, Nat.le_of_ble_eq_true rfl⟩
theorem wi_X10_qDropsToBracket : Cond.instanceMethod (mi_X10_qDropsToBracket).1 ∈ sm_Tg := sg_8 (i := 4) rfl rfl
theorem wv_X10_qDropsToBracket : Cond.selects (mi_X10_qDropsToBracket).1.cls (mi_X10_qDropsToBracket).1 (mi_X10_qDropsToBracket).1 ∈ sm_Tg := sg_P (i := 84) rfl rfl
theorem wm_X10_qWordHere : sm_mi mi_X10_qWordHere 0 := ⟨sg_7 (i := 206) rfl rfl, wini_10, rfl, ⟨wcl_10.1, wcl_10.2, by decide +kernel⟩, Nat.le_of_ble_eq_true rfl⟩
theorem wi_X10_qWordHere : Cond.instanceMethod (mi_X10_qWordHere).1 ∈ sm_Tg := sg_7 (i := 205) rfl rfl
theorem wv_X10_qWordHere : Cond.selects (mi_X10_qWordHere).1.cls (mi_X10_qWordHere).1 (mi_X10_qWordHere).1 ∈ sm_Tg := sg_P (i := 75) rfl rfl
theorem wm_X10_qWordOf : sm_mi mi_X10_qWordOf 2 := ⟨sg_7 (i := 202) rfl rfl, wini_10, rfl, ⟨wcl_10.1, wcl_10.2, by decide +kernel⟩, Nat.le_of_ble_eq_true rfl⟩
theorem wi_X10_qWordOf : Cond.instanceMethod (mi_X10_qWordOf).1 ∈ sm_Tg := sg_7 (i := 201) rfl rfl
theorem wv_X10_qWordOf : Cond.selects (mi_X10_qWordOf).1.cls (mi_X10_qWordOf).1 (mi_X10_qWordOf).1 ∈ sm_Tg := sg_P (i := 74) rfl rfl
theorem wm_X10_qAsksWord : sm_mi mi_X10_qAsksWord 1 := ⟨sg_7 (i := 218) rfl rfl, wini_10, rfl, ⟨wcl_10.1, wcl_10.2, by decide +kernel⟩, Nat.le_of_ble_eq_true rfl⟩
theorem wi_X10_qAsksWord : Cond.instanceMethod (mi_X10_qAsksWord).1 ∈ sm_Tg := sg_7 (i := 217) rfl rfl
theorem wv_X10_qAsksWord : Cond.selects (mi_X10_qAsksWord).1.cls (mi_X10_qAsksWord).1 (mi_X10_qAsksWord).1 ∈ sm_Tg := sg_P (i := 78) rfl rfl
theorem wm_X10_qEndsPart : sm_mi mi_X10_qEndsPart 0 := ⟨sg_7 (i := 226) rfl rfl, wini_10, rfl, ⟨wcl_10.1, wcl_10.2, by decide +kernel⟩, Nat.le_of_ble_eq_true rfl⟩
theorem wi_X10_qEndsPart : Cond.instanceMethod (mi_X10_qEndsPart).1 ∈ sm_Tg := sg_7 (i := 225) rfl rfl
theorem wv_X10_qEndsPart : Cond.selects (mi_X10_qEndsPart).1.cls (mi_X10_qEndsPart).1 (mi_X10_qEndsPart).1 ∈ sm_Tg := sg_P (i := 80) rfl rfl
theorem wm_X10_qPartTold : sm_mi mi_X10_qPartTold 0 := ⟨sg_7 (i := 198) rfl rfl, wini_10, rfl, ⟨wcl_10.1, wcl_10.2, by decide +kernel⟩, Nat.le_of_ble_eq_true rfl⟩
theorem wi_X10_qPartTold : Cond.instanceMethod (mi_X10_qPartTold).1 ∈ sm_Tg := sg_7 (i := 197) rfl rfl
theorem wv_X10_qPartTold : Cond.selects (mi_X10_qPartTold).1.cls (mi_X10_qPartTold).1 (mi_X10_qPartTold).1 ∈ sm_Tg := sg_P (i := 73) rfl rfl
theorem wm_X10_qGoesOn : sm_mi mi_X10_qGoesOn 0 := ⟨sg_7 (i := 234) rfl rfl, wini_10, rfl, ⟨wcl_10.1, wcl_10.2, by decide +kernel⟩, Nat.le_of_ble_eq_true rfl⟩
theorem wi_X10_qGoesOn : Cond.instanceMethod (mi_X10_qGoesOn).1 ∈ sm_Tg := sg_7 (i := 233) rfl rfl
theorem wv_X10_qGoesOn : Cond.selects (mi_X10_qGoesOn).1.cls (mi_X10_qGoesOn).1 (mi_X10_qGoesOn).1 ∈ sm_Tg := sg_P (i := 82) rfl rfl
theorem wm_X10_qSums : sm_mi mi_X10_qSums 0 := ⟨sg_7 (i := 194) rfl rfl, wini_10, rfl, ⟨wcl_10.1, wcl_10.2, by decide +kernel⟩, Nat.le_of_ble_eq_true rfl⟩
theorem wi_X10_qSums : Cond.instanceMethod (mi_X10_qSums).1 ∈ sm_Tg := sg_7 (i := 193) rfl rfl
theorem wv_X10_qSums : Cond.selects (mi_X10_qSums).1.cls (mi_X10_qSums).1 (mi_X10_qSums).1 ∈ sm_Tg := sg_P (i := 72) rfl rfl
theorem wm_X10_qFact : sm_mi mi_X10_qFact 0 := ⟨sg_9 (i := 158) rfl rfl, wini_10, rfl, ⟨wcl_10.1, wcl_10.2, by decide +kernel⟩, Nat.le_of_ble_eq_true rfl⟩
theorem wi_X10_qFact : Cond.instanceMethod (mi_X10_qFact).1 ∈ sm_Tg := sg_9 (i := 157) rfl rfl
theorem wv_X10_qFact : Cond.selects (mi_X10_qFact).1.cls (mi_X10_qFact).1 (mi_X10_qFact).1 ∈ sm_Tg := sg_P (i := 147) rfl rfl
theorem wm_X10_qHasSquare : sm_mi mi_X10_qHasSquare 0 := ⟨sg_9 (i := 170) rfl rfl, wini_10, rfl, ⟨wcl_10.1, wcl_10.2, by decide +kernel⟩, Nat.le_of_ble_eq_true rfl⟩
theorem wi_X10_qHasSquare : Cond.instanceMethod (mi_X10_qHasSquare).1 ∈ sm_Tg := sg_9 (i := 169) rfl rfl
theorem wv_X10_qHasSquare : Cond.selects (mi_X10_qHasSquare).1.cls (mi_X10_qHasSquare).1 (mi_X10_qHasSquare).1 ∈ sm_Tg := sg_P (i := 150) rfl rfl
theorem wm_X10_qDropsNots : sm_mi mi_X10_qDropsNots 0 := ⟨sg_9 (i := 162) rfl rfl, wini_10, rfl, ⟨wcl_10.1, wcl_10.2, by decide +kernel⟩, Nat.le_of_ble_eq_true rfl⟩
theorem wi_X10_qDropsNots : Cond.instanceMethod (mi_X10_qDropsNots).1 ∈ sm_Tg := sg_9 (i := 161) rfl rfl
theorem wv_X10_qDropsNots : Cond.selects (mi_X10_qDropsNots).1.cls (mi_X10_qDropsNots).1 (mi_X10_qDropsNots).1 ∈ sm_Tg := sg_P (i := 148) rfl rfl
theorem wm_X10_qTest : sm_mi mi_X10_qTest 0 := ⟨sg_9 (i := 154) rfl rfl, wini_10, rfl, ⟨wcl_10.1, wcl_10.2, by decide +kernel⟩, Nat.le_of_ble_eq_true rfl⟩
theorem wi_X10_qTest : Cond.instanceMethod (mi_X10_qTest).1 ∈ sm_Tg := sg_9 (i := 153) rfl rfl
theorem wv_X10_qTest : Cond.selects (mi_X10_qTest).1.cls (mi_X10_qTest).1 (mi_X10_qTest).1 ∈ sm_Tg := sg_P (i := 146) rfl rfl
theorem wm_X10_qGoesOnTest : sm_mi mi_X10_qGoesOnTest 0 := ⟨sg_9 (i := 166) rfl rfl, wini_10, rfl, ⟨wcl_10.1, wcl_10.2, by decide +kernel⟩, Nat.le_of_ble_eq_true rfl⟩
theorem wi_X10_qGoesOnTest : Cond.instanceMethod (mi_X10_qGoesOnTest).1 ∈ sm_Tg := sg_9 (i := 165) rfl rfl
theorem wv_X10_qGoesOnTest : Cond.selects (mi_X10_qGoesOnTest).1.cls (mi_X10_qGoesOnTest).1 (mi_X10_qGoesOnTest).1 ∈ sm_Tg := sg_P (i := 149) rfl rfl
theorem wm_X10_qClip : sm_mi mi_X10_qClip 1 := ⟨sg_9 (i := 22) rfl rfl, wini_10, rfl, ⟨wcl_10.1, wcl_10.2, by decide +kernel⟩, Nat.le_of_ble_eq_true rfl⟩
theorem wt_X10_qClip : Cond.static (mi_X10_qClip).1 ∈ sm_Tg := sg_9 (i := 21) rfl rfl
theorem wm_X10_qFloor : sm_mi mi_X10_qFloor 2 := ⟨sg_9 (i := 27) rfl rfl, wini_10, rfl, ⟨wcl_10.1, wcl_10.2, by decide +kernel⟩, Nat.le_of_ble_eq_true rfl⟩
theorem wt_X10_qFloor : Cond.static (mi_X10_qFloor).1 ∈ sm_Tg := sg_9 (i := 26) rfl rfl
theorem wm_X10_qPuts : sm_mi mi_X10_qPuts 1 := ⟨sg_9 (i := 11) rfl rfl, wini_10, rfl, ⟨wcl_10.1, wcl_10.2, by decide +kernel⟩, Nat.le_of_ble_eq_true rfl⟩
theorem wi_X10_qPuts : Cond.instanceMethod (mi_X10_qPuts).1 ∈ sm_Tg := sg_9 (i := 10) rfl rfl
theorem wv_X10_qPuts : Cond.selects (mi_X10_qPuts).1.cls (mi_X10_qPuts).1 (mi_X10_qPuts).1 ∈ sm_Tg := sg_P (i := 128) rfl rfl
theorem wm_X10_qJoins : sm_mi mi_X10_qJoins 1 := ⟨sg_9 (i := 19) rfl rfl, wini_10, rfl, ⟨wcl_10.1, wcl_10.2, by decide +kernel⟩, Nat.le_of_ble_eq_true rfl⟩
theorem wi_X10_qJoins : Cond.instanceMethod (mi_X10_qJoins).1 ∈ sm_Tg := sg_9 (i := 18) rfl rfl
theorem wv_X10_qJoins : Cond.selects (mi_X10_qJoins).1.cls (mi_X10_qJoins).1 (mi_X10_qJoins).1 ∈ sm_Tg := sg_P (i := 130) rfl rfl
theorem wm_X10_qPartOf : sm_mi mi_X10_qPartOf 2 := ⟨sg_9 (i := 15) rfl rfl, wini_10, rfl, ⟨wcl_10.1, wcl_10.2, by decide +kernel⟩, Nat.le_of_ble_eq_true rfl⟩
theorem wi_X10_qPartOf : Cond.instanceMethod (mi_X10_qPartOf).1 ∈ sm_Tg := sg_9 (i := 14) rfl rfl
theorem wv_X10_qPartOf : Cond.selects (mi_X10_qPartOf).1.cls (mi_X10_qPartOf).1 (mi_X10_qPartOf).1 ∈ sm_Tg := sg_P (i := 129) rfl rfl
theorem wm_X10_qOf : sm_mi mi_X10_qOf 3 := ⟨sg_9 (i := 179) rfl rfl, wini_10, rfl, ⟨wcl_10.1, wcl_10.2, by decide +kernel⟩, Nat.le_of_ble_eq_true rfl⟩
theorem wi_X10_qOf : Cond.instanceMethod (mi_X10_qOf).1 ∈ sm_Tg := sg_9 (i := 178) rfl rfl
theorem wv_X10_qOf : Cond.selects (mi_X10_qOf).1.cls (mi_X10_qOf).1 (mi_X10_qOf).1 ∈ sm_Tg := sg_P (i := 152) rfl rfl
theorem wm_X10_qTold : sm_mi mi_X10_qTold 1 := ⟨sg_9 (i := 175) rfl rfl, wini_10, rfl, ⟨wcl_10.1, wcl_10.2, by decide +kernel⟩, Nat.le_of_ble_eq_true rfl⟩
theorem wi_X10_qTold : Cond.instanceMethod (mi_X10_qTold).1 ∈ sm_Tg := sg_9 (i := 174) rfl rfl
theorem wv_X10_qTold : Cond.selects (mi_X10_qTold).1.cls (mi_X10_qTold).1 (mi_X10_qTold).1 ∈ sm_Tg := sg_P (i := 151) rfl rfl
theorem wm_X10_qKind : sm_mi mi_X10_qKind 0 := ⟨sg_9 (i := 150) rfl rfl, wini_10, rfl, ⟨wcl_10.1, wcl_10.2, by decide +kernel⟩, Nat.le_of_ble_eq_true rfl⟩
theorem wi_X10_qKind : Cond.instanceMethod (mi_X10_qKind).1 ∈ sm_Tg := sg_9 (i := 149) rfl rfl
theorem wv_X10_qKind : Cond.selects (mi_X10_qKind).1.cls (mi_X10_qKind).1 (mi_X10_qKind).1 ∈ sm_Tg := sg_P (i := 145) rfl rfl
theorem wm_X10_qTakes : sm_mi mi_X10_qTakes 3 := ⟨sg_9 (i := 183) rfl rfl, wini_10, rfl, ⟨wcl_10.1, wcl_10.2, by decide +kernel⟩, Nat.le_of_ble_eq_true rfl⟩
theorem wi_X10_qTakes : Cond.instanceMethod (mi_X10_qTakes).1 ∈ sm_Tg := sg_9 (i := 182) rfl rfl
theorem wv_X10_qTakes : Cond.selects (mi_X10_qTakes).1.cls (mi_X10_qTakes).1 (mi_X10_qTakes).1 ∈ sm_Tg := sg_P (i := 153) rfl rfl
theorem wm_X10_ask : sm_mi mi_X10_ask 0 := ⟨sg_9 (i := 146) rfl rfl, wini_10, rfl, ⟨wcl_10.1, wcl_10.2, by decide +kernel⟩, Nat.le_of_ble_eq_true rfl⟩
theorem wi_X10_ask : Cond.instanceMethod (mi_X10_ask).1 ∈ sm_Tg := sg_9 (i := 144) rfl rfl
theorem wv_X10_ask : Cond.selects (mi_X10_ask).1.cls (mi_X10_ask).1 (mi_X10_ask).1 ∈ sm_Tg := sg_9 (i := 145) rfl rfl
theorem wm_X10_checked : sm_mi mi_X10_checked 2 := ⟨sg_9 (i := 194) rfl rfl, wini_10, rfl, ⟨wcl_10.1, wcl_10.2, by decide +kernel⟩, Nat.le_of_ble_eq_true rfl⟩
theorem wt_X10_checked : Cond.static (mi_X10_checked).1 ∈ sm_Tg := sg_9 (i := 193) rfl rfl
theorem wm_X10_writes : sm_mi mi_X10_writes 1 := ⟨sg_9 (i := 191) rfl rfl, wini_10, rfl, ⟨wcl_10.1, wcl_10.2, by decide +kernel⟩, Nat.le_of_ble_eq_true rfl⟩
theorem wi_X10_writes : Cond.instanceMethod (mi_X10_writes).1 ∈ sm_Tg := sg_9 (i := 190) rfl rfl
theorem wv_X10_writes : Cond.selects (mi_X10_writes).1.cls (mi_X10_writes).1 (mi_X10_writes).1 ∈ sm_Tg := sg_P (i := 154) rfl rfl
theorem wm_X10_image : sm_mi mi_X10_image 0 := ⟨sg_9 (i := 187) rfl rfl, wini_10, rfl, ⟨wcl_10.1, wcl_10.2, by decide +kernel⟩, Nat.le_of_ble_eq_true rfl⟩
theorem wi_X10_image : Cond.instanceMethod (mi_X10_image).1 ∈ sm_Tg := sg_9 (i := 185) rfl rfl
theorem wv_X10_image : Cond.selects (mi_X10_image).1.cls (mi_X10_image).1 (mi_X10_image).1 ∈ sm_Tg := sg_9 (i := 186) rfl rfl
theorem wm_X10_octet : sm_mi mi_X10_octet 1 := ⟨sg_9 (i := 198) rfl rfl, wini_10, rfl, ⟨wcl_10.1, wcl_10.2, by decide +kernel⟩, Nat.le_of_ble_eq_true rfl⟩
theorem wi_X10_octet : Cond.instanceMethod (mi_X10_octet).1 ∈ sm_Tg := sg_9 (i := 196) rfl rfl
theorem wv_X10_octet : Cond.selects (mi_X10_octet).1.cls (mi_X10_octet).1 (mi_X10_octet).1 ∈ sm_Tg := sg_9 (i := 197) rfl rfl
theorem wm_X10_isImage : sm_mi mi_X10_isImage 1 := ⟨sg_9 (i := 206) rfl rfl, wini_10, rfl, ⟨wcl_10.1, wcl_10.2, by decide +kernel⟩, Nat.le_of_ble_eq_true rfl⟩
theorem wi_X10_isImage : Cond.instanceMethod (mi_X10_isImage).1 ∈ sm_Tg := sg_9 (i := 205) rfl rfl
theorem wv_X10_isImage : Cond.selects (mi_X10_isImage).1.cls (mi_X10_isImage).1 (mi_X10_isImage).1 ∈ sm_Tg := sg_P (i := 155) rfl rfl
theorem wm_X10_on : sm_mi mi_X10_on 0 := ⟨sg_9 (i := 202) rfl rfl, wini_10, rfl, ⟨wcl_10.1, wcl_10.2, by decide +kernel⟩, Nat.le_of_ble_eq_true rfl⟩
theorem wi_X10_on : Cond.instanceMethod (mi_X10_on).1 ∈ sm_Tg := sg_9 (i := 200) rfl rfl
theorem wv_X10_on : Cond.selects (mi_X10_on).1.cls (mi_X10_on).1 (mi_X10_on).1 ∈ sm_Tg := sg_9 (i := 201) rfl rfl
theorem wm_X10_status : sm_mi mi_X10_status 1 := ⟨sg_9 (i := 210) rfl rfl, wini_10, rfl, ⟨wcl_10.1, wcl_10.2, by decide +kernel⟩, Nat.le_of_ble_eq_true rfl⟩
theorem wi_X10_status : Cond.instanceMethod (mi_X10_status).1 ∈ sm_Tg := sg_9 (i := 208) rfl rfl
theorem wv_X10_status : Cond.selects (mi_X10_status).1.cls (mi_X10_status).1 (mi_X10_status).1 ∈ sm_Tg := sg_9 (i := 209) rfl rfl
theorem wm_J6_bitCount_0f7a4 : sm_mi mi_J6_bitCount_0f7a4 1 := ⟨sg_3 (i := 225) rfl rfl, wini_11, rfl, ⟨wcl_11.1, wcl_11.2, by decide +kernel⟩, Nat.le_of_ble_eq_true rfl⟩
theorem wt_J6_bitCount_0f7a4 : Cond.static (mi_J6_bitCount_0f7a4).1 ∈ sm_Tg := sg_3 (i := 224) rfl rfl
theorem wm_J9_floorDiv_7cf53 : sm_mi mi_J9_floorDiv_7cf53 2 := ⟨sg_4 (i := 233) rfl rfl, wini_12, rfl, ⟨wcl_12.1, wcl_12.2, by decide +kernel⟩, Nat.le_of_ble_eq_true rfl⟩
theorem wt_J9_floorDiv_7cf53 : Cond.static (mi_J9_floorDiv_7cf53).1 ∈ sm_Tg := sg_4 (i := 232) rfl rfl
theorem wm_J9_abs_0f7a4 : sm_mi mi_J9_abs_0f7a4 1 := ⟨sg_4 (i := 198) rfl rfl, wini_12, rfl, ⟨wcl_12.1, wcl_12.2, by decide +kernel⟩, Nat.le_of_ble_eq_true rfl⟩
theorem wt_J9_abs_0f7a4 : Cond.static (mi_J9_abs_0f7a4).1 ∈ sm_Tg := sg_4 (i := 197) rfl rfl
theorem wm_J9_max_7cf53 : sm_mi mi_J9_max_7cf53 2 := ⟨sg_3 (i := 109) rfl rfl, wini_12, rfl, ⟨wcl_12.1, wcl_12.2, by decide +kernel⟩, Nat.le_of_ble_eq_true rfl⟩
theorem wt_J9_max_7cf53 : Cond.static (mi_J9_max_7cf53).1 ∈ sm_Tg := sg_3 (i := 108) rfl rfl
theorem wm_J9_max_f86c9 : sm_mi mi_J9_max_f86c9 2 := ⟨sg_4 (i := 230) rfl rfl, wini_12, rfl, ⟨wcl_12.1, wcl_12.2, by decide +kernel⟩, Nat.le_of_ble_eq_true rfl⟩
theorem wt_J9_max_f86c9 : Cond.static (mi_J9_max_f86c9).1 ∈ sm_Tg := sg_4 (i := 229) rfl rfl
theorem wm_J9_min_7cf53 : sm_mi mi_J9_min_7cf53 2 := ⟨sg_4 (i := 3) rfl rfl, wini_12, rfl, ⟨wcl_12.1, wcl_12.2, by decide +kernel⟩, Nat.le_of_ble_eq_true rfl⟩
theorem wt_J9_min_7cf53 : Cond.static (mi_J9_min_7cf53).1 ∈ sm_Tg := sg_4 (i := 2) rfl rfl
theorem wm_J9_min_f86c9 : sm_mi mi_J9_min_f86c9 2 := ⟨sg_4 (i := 227) rfl rfl, wini_12, rfl, ⟨wcl_12.1, wcl_12.2, by decide +kernel⟩, Nat.le_of_ble_eq_true rfl⟩
theorem wt_J9_min_f86c9 : Cond.static (mi_J9_min_f86c9).1 ∈ sm_Tg := sg_4 (i := 226) rfl rfl
theorem wm_J0_length_8abf5 : sm_mi mi_J0_length_8abf5 0 := ⟨sg_3 (i := 3) rfl rfl, wini_14, rfl, ⟨wcl_14.1, wcl_14.2, by decide +kernel⟩, Nat.le_of_ble_eq_true rfl⟩
theorem wi_J0_length_8abf5 : Cond.instanceMethod (mi_J0_length_8abf5).1 ∈ sm_Tg := sg_3 (i := 1) rfl rfl
theorem wv_J0_length_8abf5 : Cond.selects (mi_J0_length_8abf5).1.cls (mi_J0_length_8abf5).1 (mi_J0_length_8abf5).1 ∈ sm_Tg := sg_3 (i := 2) rfl rfl
theorem wm_J0_charAt_5068e : sm_mi mi_J0_charAt_5068e 1 := ⟨sg_3 (i := 13) rfl rfl, wini_14, rfl, ⟨wcl_14.1, wcl_14.2, by decide +kernel⟩, Nat.le_of_ble_eq_true rfl⟩
theorem wi_J0_charAt_5068e : Cond.instanceMethod (mi_J0_charAt_5068e).1 ∈ sm_Tg := sg_3 (i := 11) rfl rfl
theorem wv_J0_charAt_5068e : Cond.selects (mi_J0_charAt_5068e).1.cls (mi_J0_charAt_5068e).1 (mi_J0_charAt_5068e).1 ∈ sm_Tg := sg_3 (i := 12) rfl rfl
theorem wm_J0_coder_7d493 : sm_mi mi_J0_coder_7d493 0 := ⟨sg_3 (i := 7) rfl rfl, wini_14, rfl, ⟨wcl_14.1, wcl_14.2, by decide +kernel⟩, Nat.le_of_ble_eq_true rfl⟩
theorem wi_J0_coder_7d493 : Cond.instanceMethod (mi_J0_coder_7d493).1 ∈ sm_Tg := sg_3 (i := 5) rfl rfl
theorem wv_J0_coder_7d493 : Cond.selects (mi_J0_coder_7d493).1.cls (mi_J0_coder_7d493).1 (mi_J0_coder_7d493).1 ∈ sm_Tg := sg_3 (i := 6) rfl rfl
theorem wm_J0_isLatin1_aae02 : sm_mi mi_J0_isLatin1_aae02 0 := ⟨sg_3 (i := 17) rfl rfl, wini_14, rfl, ⟨wcl_14.1, wcl_14.2, by decide +kernel⟩, Nat.le_of_ble_eq_true rfl⟩
theorem wi_J0_isLatin1_aae02 : Cond.instanceMethod (mi_J0_isLatin1_aae02).1 ∈ sm_Tg := sg_3 (i := 15) rfl rfl
theorem wv_J0_isLatin1_aae02 : Cond.selects (mi_J0_isLatin1_aae02).1.cls (mi_J0_isLatin1_aae02).1 (mi_J0_isLatin1_aae02).1 ∈ sm_Tg := sg_3 (i := 16) rfl rfl
theorem wm_J0_checkIndex_df160 : sm_mi mi_J0_checkIndex_df160 2 := ⟨sg_3 (i := 23) rfl rfl, wini_14, rfl, ⟨wcl_14.1, wcl_14.2, by decide +kernel⟩, Nat.le_of_ble_eq_true rfl⟩
theorem wt_J0_checkIndex_df160 : Cond.static (mi_J0_checkIndex_df160).1 ∈ sm_Tg := sg_3 (i := 22) rfl rfl
theorem wm_J1_charAt_3b067 : sm_mi mi_J1_charAt_3b067 2 := ⟨sg_3 (i := 20) rfl rfl, wini_15, rfl, ⟨wcl_15.1, wcl_15.2, by decide +kernel⟩, Nat.le_of_ble_eq_true rfl⟩
theorem wt_J1_charAt_3b067 : Cond.static (mi_J1_charAt_3b067).1 ∈ sm_Tg := sg_3 (i := 19) rfl rfl
theorem wm_J7_fill_53178 : sm_mi mi_J7_fill_53178 2 := ⟨sg_2 (i := 40) rfl rfl, wini_13, rfl, ⟨wcl_13.1, wcl_13.2, by decide +kernel⟩, Nat.le_of_ble_eq_true rfl⟩
theorem wt_J7_fill_53178 : Cond.static (mi_J7_fill_53178).1 ∈ sm_Tg := sg_2 (i := 39) rfl rfl
theorem wm_J3_checkIndex_8e157 : sm_mi mi_J3_checkIndex_8e157 3 := ⟨sg_3 (i := 28) rfl rfl, wini_16, rfl, ⟨wcl_16.1, wcl_16.2, by decide +kernel⟩, Nat.le_of_ble_eq_true rfl⟩
theorem wt_J3_checkIndex_8e157 : Cond.static (mi_J3_checkIndex_8e157).1 ∈ sm_Tg := sg_3 (i := 27) rfl rfl
