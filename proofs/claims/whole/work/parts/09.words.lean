/-! MY OWN (by program): methods, and the words of calls -/
abbrev mX0_init : zMI := (yX0_init, cX0_init, 2, none)
abbrev mX0_forget : zMI := (yX0_forget, cX0_forget, 1, none)
abbrev mX0_plan : zMI := (yX0_plan, cX0_plan, 5, none)
abbrev mX0_tunnelAt : zMI := (yX0_tunnelAt, cX0_tunnelAt, 3, (some .int))
abbrev mX0_bestFrom : zMI := (yX0_bestFrom, cX0_bestFrom, 6, (some .long))
abbrev mX0_addPlanned : zMI := (yX0_addPlanned, cX0_addPlanned, 11, none)
abbrev mX0_addToSeconds : zMI := (yX0_addToSeconds, cX0_addToSeconds, 7, none)
abbrev mX0_bestSecond : zMI := (yX0_bestSecond, cX0_bestSecond, 5, (some .int))
abbrev mX0_settle : zMI := (yX0_settle, cX0_settle, 3, none)
abbrev mX0_isAnyMoved : zMI := (yX0_isAnyMoved, cX0_isAnyMoved, 6, (some .boolean))
abbrev mX0_fillAgainstOthers : zMI := (yX0_fillAgainstOthers, cX0_fillAgainstOthers, 11, none)
abbrev mX0_hiddenTotal : zMI := (yX0_hiddenTotal, cX0_hiddenTotal, 11, (some .long))
abbrev mX0_bestPace : zMI := (yX0_bestPace, cX0_bestPace, 7, (some .int))
abbrev mX0_paceWeights : zMI := (yX0_paceWeights, cX0_paceWeights, 7, (some .int))
abbrev mX0_bestToLaugh : zMI := (yX0_bestToLaugh, cX0_bestToLaugh, 9, (some .int))
abbrev mX0_totalAmong : zMI := (yX0_totalAmong, cX0_totalAmong, 8, (some .long))
abbrev mX1_init : zMI := (yX1_init, cX1_init, 1, none)
abbrev mX1_take : zMI := (yX1_take, cX1_take, 6, (some .boolean))
abbrev mX1_fitLength : zMI := (yX1_fitLength, cX1_fitLength, 4, (some .boolean))
abbrev mX2_init : zMI := (yX2_init, cX2_init, 1, none)
abbrev mX2_add : zMI := (yX2_add, cX2_add, 2, none)
abbrev mX2_takeBack : zMI := (yX2_takeBack, cX2_takeBack, 2, none)
abbrev mX3_init : zMI := (yX3_init, cX3_init, 1, none)
abbrev mX3_write : zMI := (yX3_write, cX3_write, 6, none)
abbrev mX3_addByte : zMI := (yX3_addByte, cX3_addByte, 2, none)
abbrev mX3_withChecked : zMI := (yX3_withChecked, cX3_withChecked, 2, (some .int))
abbrev mX3_holderSize : zMI := (yX3_holderSize, cX3_holderSize, 1, (some .int))
abbrev mX3_isOf : zMI := (yX3_isOf, cX3_isOf, 5, (some .boolean))
abbrev mX3_isHolderAt : zMI := (yX3_isHolderAt, cX3_isHolderAt, 5, (some .boolean))
abbrev mX3_scoreAt : zMI := (yX3_scoreAt, cX3_scoreAt, 2, (some .int))
abbrev mX3_putInto : zMI := (yX3_putInto, cX3_putInto, 6, none)
abbrev mX4_init : zMI := (yX4_init, cX4_init, 3, none)
abbrev mX4_secondsHeld : zMI := (yX4_secondsHeld, cX4_secondsHeld, 5, (some .int))
abbrev mX4_allHold : zMI := (yX4_allHold, cX4_allHold, 4, none)
abbrev mX4_madeBits : zMI := (yX4_madeBits, cX4_madeBits, 5, (some .int))
abbrev mX4_worthAlone : zMI := (yX4_worthAlone, cX4_worthAlone, 5, (some .int))
abbrev mX4_worthAmong : zMI := (yX4_worthAmong, cX4_worthAmong, 4, (some .int))
abbrev mX4_tiredAlone : zMI := (yX4_tiredAlone, cX4_tiredAlone, 5, (some .int))
abbrev mX4_tiredAmong : zMI := (yX4_tiredAmong, cX4_tiredAmong, 4, (some .int))
abbrev mX4_tellAlone : zMI := (yX4_tellAlone, cX4_tellAlone, 5, none)
abbrev mX4_tellAmong : zMI := (yX4_tellAmong, cX4_tellAmong, 5, none)
abbrev mX5_init : zMI := (yX5_init, cX5_init, 8, none)
abbrev mX5_withLetter : zMI := (yX5_withLetter, cX5_withLetter, 3, (some .int))
abbrev mX5_letterOf : zMI := (yX5_letterOf, cX5_letterOf, 2, (some .int))
abbrev mX5_begin : zMI := (yX5_begin, cX5_begin, 2, none)
abbrev mX5_isGoingOn : zMI := (yX5_isGoingOn, cX5_isGoingOn, 1, (some .boolean))
abbrev mX5_fail : zMI := (yX5_fail, cX5_fail, 3, none)
abbrev mX5_advance : zMI := (yX5_advance, cX5_advance, 3, none)
abbrev mX5_skipBlanks : zMI := (yX5_skipBlanks, cX5_skipBlanks, 1, none)
abbrev mX5_scanWord : zMI := (yX5_scanWord, cX5_scanWord, 1, none)
abbrev mX5_scanNumber : zMI := (yX5_scanNumber, cX5_scanNumber, 1, none)
abbrev mX5_scanSign : zMI := (yX5_scanSign, cX5_scanSign, 2, none)
abbrev mX5_isLetter : zMI := (yX5_isLetter, cX5_isLetter, 1, (some .boolean))
abbrev mX5_isDigit : zMI := (yX5_isDigit, cX5_isDigit, 1, (some .boolean))
abbrev mX5_takeSign : zMI := (yX5_takeSign, cX5_takeSign, 2, none)
abbrev mX5_takeWord : zMI := (yX5_takeWord, cX5_takeWord, 2, none)
abbrev mX5_takeNumber : zMI := (yX5_takeNumber, cX5_takeNumber, 4, (some .int))
abbrev mX5_takeNewName : zMI := (yX5_takeNewName, cX5_takeNewName, 2, (some .int))
abbrev mX5_takeHolder : zMI := (yX5_takeHolder, cX5_takeHolder, 2, (some .int))
abbrev mX5_takeTunnel : zMI := (yX5_takeTunnel, cX5_takeTunnel, 2, (some .int))
abbrev mX5_takeKnownName : zMI := (yX5_takeKnownName, cX5_takeKnownName, 2, none)
abbrev mX5_isName : zMI := (yX5_isName, cX5_isName, 1, (some .boolean))
abbrev mX5_readStatement : zMI := (yX5_readStatement, cX5_readStatement, 1, none)
abbrev mX5_readTunnel : zMI := (yX5_readTunnel, cX5_readTunnel, 3, none)
abbrev mX5_readLength : zMI := (yX5_readLength, cX5_readLength, 3, none)
abbrev mX5_readHolder : zMI := (yX5_readHolder, cX5_readHolder, 2, none)
abbrev mX5_readThinks : zMI := (yX5_readThinks, cX5_readThinks, 4, none)
abbrev mX5_readGives : zMI := (yX5_readGives, cX5_readGives, 3, none)
abbrev mX5_readTold : zMI := (yX5_readTold, cX5_readTold, 2, none)
abbrev mX5_readSum : zMI := (yX5_readSum, cX5_readSum, 4, none)
abbrev mX5_readProduct : zMI := (yX5_readProduct, cX5_readProduct, 4, none)
abbrev mX5_readPart : zMI := (yX5_readPart, cX5_readPart, 2, none)
abbrev mX5_factOf : zMI := (yX5_factOf, cX5_factOf, 1, (some .int))
abbrev mX5_readIf : zMI := (yX5_readIf, cX5_readIf, 4, none)
abbrev mX5_readPair : zMI := (yX5_readPair, cX5_readPair, 3, none)
abbrev mX5_isOpened : zMI := (yX5_isOpened, cX5_isOpened, 3, (some .boolean))
abbrev mX5_readTest : zMI := (yX5_readTest, cX5_readTest, 3, none)
abbrev mX5_readBoth : zMI := (yX5_readBoth, cX5_readBoth, 3, none)
abbrev mX5_readFact : zMI := (yX5_readFact, cX5_readFact, 2, none)
abbrev mX5_readNot : zMI := (yX5_readNot, cX5_readNot, 2, none)
abbrev mX5_readCompared : zMI := (yX5_readCompared, cX5_readCompared, 3, none)
abbrev mX6_init : zMI := (yX6_init, cX6_init, 1, none)
abbrev mX6_clear : zMI := (yX6_clear, cX6_clear, 1, none)
abbrev mX6_hasTunnel : zMI := (yX6_hasTunnel, cX6_hasTunnel, 2, (some .boolean))
abbrev mX6_hasHolder : zMI := (yX6_hasHolder, cX6_hasHolder, 2, (some .boolean))
abbrev mX6_hasBoth : zMI := (yX6_hasBoth, cX6_hasBoth, 3, (some .boolean))
abbrev mX6_lengthAt : zMI := (yX6_lengthAt, cX6_lengthAt, 3, (some .int))
abbrev mX6_weightAt : zMI := (yX6_weightAt, cX6_weightAt, 3, (some .int))
abbrev mX6_hasLength : zMI := (yX6_hasLength, cX6_hasLength, 4, (some .boolean))
abbrev mX6_allWeights : zMI := (yX6_allWeights, cX6_allWeights, 4, (some .int))
abbrev mX6_tunnelNamed : zMI := (yX6_tunnelNamed, cX6_tunnelNamed, 2, (some .int))
abbrev mX6_holderNamed : zMI := (yX6_holderNamed, cX6_holderNamed, 2, (some .int))
abbrev mX6_find : zMI := (yX6_find, cX6_find, 4, (some .int))
abbrev mX7_init : zMI := (yX7_init, cX7_init, 1, none)
abbrev mX7_begin : zMI := (yX7_begin, cX7_begin, 3, none)
abbrev mX7_nextTunnel : zMI := (yX7_nextTunnel, cX7_nextTunnel, 1, (some .int))
abbrev mX7_setNextTunnel : zMI := (yX7_setNextTunnel, cX7_setNextTunnel, 2, none)
abbrev mX7_breathOf : zMI := (yX7_breathOf, cX7_breathOf, 2, (some .int))
abbrev mX7_setBreath : zMI := (yX7_setBreath, cX7_setBreath, 3, none)
abbrev mX7_givesOf : zMI := (yX7_givesOf, cX7_givesOf, 2, (some .int))
abbrev mX7_setGives : zMI := (yX7_setGives, cX7_setGives, 3, none)
abbrev mX7_scoreOf : zMI := (yX7_scoreOf, cX7_scoreOf, 2, (some .int))
abbrev mX7_setScore : zMI := (yX7_setScore, cX7_setScore, 3, none)
abbrev mX7_addScore : zMI := (yX7_addScore, cX7_addScore, 3, none)
abbrev mX7_thinksOf : zMI := (yX7_thinksOf, cX7_thinksOf, 3, (some .int))
abbrev mX7_setThinks : zMI := (yX7_setThinks, cX7_setThinks, 4, none)
abbrev mX7_keep : zMI := (yX7_keep, cX7_keep, 5, none)
abbrev mX7_keepNothing : zMI := (yX7_keepNothing, cX7_keepNothing, 1, none)
abbrev mX7_keptCount : zMI := (yX7_keptCount, cX7_keptCount, 1, (some .int))
abbrev mX7_keptPart : zMI := (yX7_keptPart, cX7_keptPart, 4, (some .int))
abbrev mX8_init : zMI := (yX8_init, cX8_init, 1, none)
abbrev mX8_clear : zMI := (yX8_clear, cX8_clear, 1, none)
abbrev mX8_add : zMI := (yX8_add, cX8_add, 3, (some .int))
abbrev mX8_landHere : zMI := (yX8_landHere, cX8_landHere, 2, none)
abbrev mX8_isTold : zMI := (yX8_isTold, cX8_isTold, 2, (some .boolean))
abbrev mX8_valueOf : zMI := (yX8_valueOf, cX8_valueOf, 8, (some .int))
abbrev mX8_push : zMI := (yX8_push, cX8_push, 2, none)
abbrev mX8_pop : zMI := (yX8_pop, cX8_pop, 1, (some .int))
abbrev mX8_joined : zMI := (yX8_joined, cX8_joined, 3, (some .long))
abbrev mX8_bounded : zMI := (yX8_bounded, cX8_bounded, 2, (some .int))
abbrev mX9_init : zMI := (yX9_init, cX9_init, 1, none)
abbrev mX9_addNumber : zMI := (yX9_addNumber, cX9_addNumber, 3, none)
abbrev mX9_byteAt : zMI := (yX9_byteAt, cX9_byteAt, 2, (some .int))
abbrev mX10_init : zMI := (yX10_init, cX10_init, 1, none)
abbrev mX10_feed : zMI := (yX10_feed, cX10_feed, 6, (some .int))
abbrev mX10_end : zMI := (yX10_end, cX10_end, 2, (some .boolean))
abbrev mX10_road : zMI := (yX10_road, cX10_road, 2, (some .int))
abbrev mX10_fault : zMI := (yX10_fault, cX10_fault, 2, (some .int))
abbrev mX10_has : zMI := (yX10_has, cX10_has, 2, (some .int))
abbrev mX10_letter : zMI := (yX10_letter, cX10_letter, 4, (some .int))
abbrev mX10_tunnel : zMI := (yX10_tunnel, cX10_tunnel, 5, (some .int))
abbrev mX10_holder : zMI := (yX10_holder, cX10_holder, 4, (some .int))
abbrev mX10_score : zMI := (yX10_score, cX10_score, 2, (some .int))
abbrev mX10_likely : zMI := (yX10_likely, cX10_likely, 6, (some .int))
abbrev mX10_holds : zMI := (yX10_holds, cX10_holds, 4, (some .int))
abbrev mX10_made : zMI := (yX10_made, cX10_made, 7, (some .int))
abbrev mX10_worth : zMI := (yX10_worth, cX10_worth, 4, (some .int))
abbrev mX10_tired : zMI := (yX10_tired, cX10_tired, 5, (some .int))
abbrev mX10_alone : zMI := (yX10_alone, cX10_alone, 4, (some .int))
abbrev mX10_on : zMI := (yX10_on, cX10_on, 5, (some .int))
abbrev mX10_rest : zMI := (yX10_rest, cX10_rest, 3, (some .int))
abbrev mX10_hidden : zMI := (yX10_hidden, cX10_hidden, 6, (some .int))
abbrev mX10_pace : zMI := (yX10_pace, cX10_pace, 6, (some .int))
abbrev mX10_whom : zMI := (yX10_whom, cX10_whom, 5, (some .int))
abbrev mX10_faces : zMI := (yX10_faces, cX10_faces, 3, (some .int))
abbrev mX10_fit : zMI := (yX10_fit, cX10_fit, 6, (some .int))
abbrev mX10_drive : zMI := (yX10_drive, cX10_drive, 4, (some .int))
abbrev mX10_pause : zMI := (yX10_pause, cX10_pause, 4, (some .int))
abbrev mX10_believe : zMI := (yX10_believe, cX10_believe, 5, (some .int))
abbrev mX10_give : zMI := (yX10_give, cX10_give, 4, (some .int))
abbrev mX10_undo : zMI := (yX10_undo, cX10_undo, 1, (some .boolean))
abbrev mX10_seed : zMI := (yX10_seed, cX10_seed, 2, (some .boolean))
abbrev mX10_kept : zMI := (yX10_kept, cX10_kept, 3, (some .int))
abbrev mX10_image : zMI := (yX10_image, cX10_image, 1, (some .int))
abbrev mX10_octet : zMI := (yX10_octet, cX10_octet, 2, (some .int))
abbrev mX10_goOn : zMI := (yX10_goOn, cX10_goOn, 2, (some .boolean))
abbrev mX10_status : zMI := (yX10_status, cX10_status, 2, (some .int))
abbrev mX10_refuse : zMI := (yX10_refuse, cX10_refuse, 2, (some .int))
abbrev mX10_beginAct : zMI := (yX10_beginAct, cX10_beginAct, 1, none)
abbrev mX10_driveThrough : zMI := (yX10_driveThrough, cX10_driveThrough, 6, (some .int))
abbrev mX10_drawLength : zMI := (yX10_drawLength, cX10_drawLength, 6, (some .int))
abbrev mX10_drawHeld : zMI := (yX10_drawHeld, cX10_drawHeld, 4, (some .int))
abbrev mX10_draw : zMI := (yX10_draw, cX10_draw, 2, (some .int))
abbrev mX10_isLength : zMI := (yX10_isLength, cX10_isLength, 1, (some .boolean))
abbrev mX10_isSecond : zMI := (yX10_isSecond, cX10_isSecond, 1, (some .boolean))
abbrev mX10_thousandths : zMI := (yX10_thousandths, cX10_thousandths, 4, (some .int))
abbrev mX10_within : zMI := (yX10_within, cX10_within, 3, (some .int))
abbrev mX11_init : zMI := (yX11_init, cX11_init, 1, none)
abbrev mX11_is : zMI := (yX11_is, cX11_is, 3, (some .boolean))
abbrev mX11_put : zMI := (yX11_put, cX11_put, 3, none)
abbrev mX11_feed : zMI := (yX11_feed, cX11_feed, 6, (some .int))
abbrev mX11_end : zMI := (yX11_end, cX11_end, 2, (some .boolean))
abbrev mX11_blame : zMI := (yX11_blame, cX11_blame, 3, none)
abbrev mX11_isLetter : zMI := (yX11_isLetter, cX11_isLetter, 1, (some .boolean))
abbrev mX11_isDigit : zMI := (yX11_isDigit, cX11_isDigit, 1, (some .boolean))
abbrev mX11_lex : zMI := (yX11_lex, cX11_lex, 1, none)
abbrev mX11_ahead : zMI := (yX11_ahead, cX11_ahead, 6, none)
abbrev mX11_isSign : zMI := (yX11_isSign, cX11_isSign, 2, (some .boolean))
abbrev mX11_isWord : zMI := (yX11_isWord, cX11_isWord, 3, (some .boolean))
abbrev mX11_must : zMI := (yX11_must, cX11_must, 2, none)
abbrev mX11_isOwn : zMI := (yX11_isOwn, cX11_isOwn, 3, (some .boolean))
abbrev mX11_manyOf : zMI := (yX11_manyOf, cX11_manyOf, 3, (some .int))
abbrev mX11_nameOf : zMI := (yX11_nameOf, cX11_nameOf, 4, (some .long))
abbrev mX11_named : zMI := (yX11_named, cX11_named, 5, (some .int))
abbrev mX11_lookedAt : zMI := (yX11_lookedAt, cX11_lookedAt, 3, (some .int))
abbrev mX11_number : zMI := (yX11_number, cX11_number, 4, (some .int))
abbrev mX11_add : zMI := (yX11_add, cX11_add, 3, none)
abbrev mX11_rank : zMI := (yX11_rank, cX11_rank, 1, (some .int))
abbrev mX11_joins : zMI := (yX11_joins, cX11_joins, 2, none)
abbrev mX11_holdsBack : zMI := (yX11_holdsBack, cX11_holdsBack, 2, none)
abbrev mX11_pushes : zMI := (yX11_pushes, cX11_pushes, 2, none)
abbrev mX11_opens : zMI := (yX11_opens, cX11_opens, 2, none)
abbrev mX11_isTest : zMI := (yX11_isTest, cX11_isTest, 1, (some .boolean))
abbrev mX11_operand : zMI := (yX11_operand, cX11_operand, 4, (some .boolean))
abbrev mX11_goesOn : zMI := (yX11_goesOn, cX11_goesOn, 5, (some .boolean))
abbrev mX11_reads : zMI := (yX11_reads, cX11_reads, 3, none)
abbrev mX11_counts : zMI := (yX11_counts, cX11_counts, 2, (some .boolean))
abbrev mX11_must_ : zMI := (yX11_must_, cX11_must_, 3, none)
abbrev mX11_fresh : zMI := (yX11_fresh, cX11_fresh, 3, (some .long))
abbrev mX11_asked : zMI := (yX11_asked, cX11_asked, 3, (some .int))
abbrev mX11_tunnelling : zMI := (yX11_tunnelling, cX11_tunnelling, 6, none)
abbrev mX11_holdering : zMI := (yX11_holdering, cX11_holdering, 3, none)
abbrev mX11_thinking : zMI := (yX11_thinking, cX11_thinking, 4, none)
abbrev mX11_giving : zMI := (yX11_giving, cX11_giving, 3, none)
abbrev mX11_worthing : zMI := (yX11_worthing, cX11_worthing, 1, none)
abbrev mX11_tiring : zMI := (yX11_tiring, cX11_tiring, 1, none)
abbrev mX11_telling : zMI := (yX11_telling, cX11_telling, 3, none)
abbrev mX11_statement : zMI := (yX11_statement, cX11_statement, 1, none)
abbrev mX11_finishes : zMI := (yX11_finishes, cX11_finishes, 3, none)
abbrev mX11_road : zMI := (yX11_road, cX11_road, 2, (some .int))
abbrev mX11_fault : zMI := (yX11_fault, cX11_fault, 2, (some .int))
abbrev mX11_refuses : zMI := (yX11_refuses, cX11_refuses, 2, (some .int))
abbrev mX11_status : zMI := (yX11_status, cX11_status, 2, (some .int))
abbrev mX11_isTunnel : zMI := (yX11_isTunnel, cX11_isTunnel, 2, (some .boolean))
abbrev mX11_isHolder : zMI := (yX11_isHolder, cX11_isHolder, 2, (some .boolean))
abbrev mX11_lengthsOf : zMI := (yX11_lengthsOf, cX11_lengthsOf, 2, (some .int))
abbrev mX11_lengthAt : zMI := (yX11_lengthAt, cX11_lengthAt, 3, (some .int))
abbrev mX11_weightAt : zMI := (yX11_weightAt, cX11_weightAt, 3, (some .int))
abbrev mX11_weights : zMI := (yX11_weights, cX11_weights, 4, (some .int))
abbrev mX11_copies : zMI := (yX11_copies, cX11_copies, 4, none)
abbrev mX11_begin : zMI := (yX11_begin, cX11_begin, 2, none)
abbrev mX11_ring : zMI := (yX11_ring, cX11_ring, 2, (some .int))
abbrev mX11_keeps : zMI := (yX11_keeps, cX11_keeps, 1, none)
abbrev mX11_undo : zMI := (yX11_undo, cX11_undo, 1, (some .boolean))
abbrev mX11_part : zMI := (yX11_part, cX11_part, 3, (some .long))
abbrev mX11_held : zMI := (yX11_held, cX11_held, 2, (some .long))
abbrev mX11_floor : zMI := (yX11_floor, cX11_floor, 6, (some .long))
abbrev mX11_two : zMI := (yX11_two, cX11_two, 5, (some .long))
abbrev mX11_reckons : zMI := (yX11_reckons, cX11_reckons, 6, (some .long))
abbrev mX11_between : zMI := (yX11_between, cX11_between, 4, (some .int))
abbrev mX11_asks : zMI := (yX11_asks, cX11_asks, 7, none)
abbrev mX11_worthNow : zMI := (yX11_worthNow, cX11_worthNow, 1, (some .int))
abbrev mX11_breathNow : zMI := (yX11_breathNow, cX11_breathNow, 1, (some .int))
abbrev mX11_worthAlone : zMI := (yX11_worthAlone, cX11_worthAlone, 5, (some .int))
abbrev mX11_lesser : zMI := (yX11_lesser, cX11_lesser, 2, (some .int))
abbrev mX11_holdOf : zMI := (yX11_holdOf, cX11_holdOf, 5, (some .int))
abbrev mX11_allHold : zMI := (yX11_allHold, cX11_allHold, 4, none)
abbrev mX11_asksRow : zMI := (yX11_asksRow, cX11_asksRow, 7, none)
abbrev mX11_worthRow : zMI := (yX11_worthRow, cX11_worthRow, 4, (some .int))
abbrev mX11_has : zMI := (yX11_has, cX11_has, 2, (some .int))
abbrev mX11_letter : zMI := (yX11_letter, cX11_letter, 9, (some .int))
abbrev mX11_tunnel : zMI := (yX11_tunnel, cX11_tunnel, 3, (some .int))
abbrev mX11_holder : zMI := (yX11_holder, cX11_holder, 3, (some .int))
abbrev mX11_score : zMI := (yX11_score, cX11_score, 2, (some .int))
abbrev mX11_likely : zMI := (yX11_likely, cX11_likely, 5, (some .int))
abbrev mX11_canBe : zMI := (yX11_canBe, cX11_canBe, 4, (some .boolean))
abbrev mX11_holds : zMI := (yX11_holds, cX11_holds, 4, (some .int))
abbrev mX11_made : zMI := (yX11_made, cX11_made, 5, (some .int))
abbrev mX11_worth : zMI := (yX11_worth, cX11_worth, 4, (some .int))
abbrev mX11_tired : zMI := (yX11_tired, cX11_tired, 5, (some .int))
abbrev mX11_thousandths : zMI := (yX11_thousandths, cX11_thousandths, 5, (some .int))
abbrev mX11_findsAlone : zMI := (yX11_findsAlone, cX11_findsAlone, 7, none)
abbrev mX11_alone : zMI := (yX11_alone, cX11_alone, 4, (some .int))
abbrev mX11_findsOn : zMI := (yX11_findsOn, cX11_findsOn, 13, none)
abbrev mX11_on : zMI := (yX11_on, cX11_on, 9, (some .int))
abbrev mX11_worthBy : zMI := (yX11_worthBy, cX11_worthBy, 9, (some .long))
abbrev mX11_takes : zMI := (yX11_takes, cX11_takes, 9, (some .boolean))
abbrev mX11_rest : zMI := (yX11_rest, cX11_rest, 6, (some .int))
abbrev mX11_hidden : zMI := (yX11_hidden, cX11_hidden, 8, (some .int))
abbrev mX11_madeBy : zMI := (yX11_madeBy, cX11_madeBy, 5, (some .int))
abbrev mX11_pace : zMI := (yX11_pace, cX11_pace, 10, (some .int))
abbrev mX11_whom : zMI := (yX11_whom, cX11_whom, 11, (some .int))
abbrev mX11_faces : zMI := (yX11_faces, cX11_faces, 5, (some .int))
abbrev mX11_isByFaces : zMI := (yX11_isByFaces, cX11_isByFaces, 3, (some .boolean))
abbrev mX11_fit : zMI := (yX11_fit, cX11_fit, 6, (some .int))
abbrev mX11_draw : zMI := (yX11_draw, cX11_draw, 2, (some .int))
abbrev mX11_writesDown : zMI := (yX11_writesDown, cX11_writesDown, 5, none)
abbrev mX11_laughing : zMI := (yX11_laughing, cX11_laughing, 5, (some .int))
abbrev mX11_driven : zMI := (yX11_driven, cX11_driven, 7, (some .int))
abbrev mX11_drive : zMI := (yX11_drive, cX11_drive, 4, (some .int))
abbrev mX11_pause : zMI := (yX11_pause, cX11_pause, 3, (some .int))
abbrev mX11_believe : zMI := (yX11_believe, cX11_believe, 5, (some .int))
abbrev mX11_give : zMI := (yX11_give, cX11_give, 4, (some .int))
abbrev mX11_seed : zMI := (yX11_seed, cX11_seed, 2, (some .boolean))
abbrev mX11_kept : zMI := (yX11_kept, cX11_kept, 3, (some .int))
abbrev mX11_writes : zMI := (yX11_writes, cX11_writes, 2, none)
abbrev mX11_image : zMI := (yX11_image, cX11_image, 4, (some .int))
abbrev mX11_octet : zMI := (yX11_octet, cX11_octet, 2, (some .int))
abbrev mX11_holderOn : zMI := (yX11_holderOn, cX11_holderOn, 5, (some .boolean))
abbrev mX11_comesOn : zMI := (yX11_comesOn, cX11_comesOn, 5, (some .boolean))
abbrev mX11_goOn : zMI := (yX11_goOn, cX11_goOn, 2, (some .boolean))
abbrev mJ11_isValidCodePoint_9a6ad : zMI := (yJ11_isValidCodePoint_9a6ad, cJ11_isValidCodePoint_9a6ad, 2, (some .boolean))
abbrev mJ11_highSurrogate_5068e : zMI := (yJ11_highSurrogate_5068e, cJ11_highSurrogate_5068e, 1, (some .char))
abbrev mJ11_lowSurrogate_5068e : zMI := (yJ11_lowSurrogate_5068e, cJ11_lowSurrogate_5068e, 1, (some .char))
abbrev mJ6_bitCount_0f7a4 : zMI := (yJ6_bitCount_0f7a4, cJ6_bitCount_0f7a4, 1, (some .int))
abbrev mJ9_floorDiv_7cf53 : zMI := (yJ9_floorDiv_7cf53, cJ9_floorDiv_7cf53, 3, (some .int))
abbrev mJ9_floorDiv_f86c9 : zMI := (yJ9_floorDiv_f86c9, cJ9_floorDiv_f86c9, 6, (some .long))
abbrev mJ9_floorMod_7cf53 : zMI := (yJ9_floorMod_7cf53, cJ9_floorMod_7cf53, 3, (some .int))
abbrev mJ9_max_7cf53 : zMI := (yJ9_max_7cf53, cJ9_max_7cf53, 2, (some .int))
abbrev mJ9_max_f86c9 : zMI := (yJ9_max_f86c9, cJ9_max_f86c9, 4, (some .long))
abbrev mJ9_min_7cf53 : zMI := (yJ9_min_7cf53, cJ9_min_7cf53, 2, (some .int))
abbrev mJ9_min_f86c9 : zMI := (yJ9_min_f86c9, cJ9_min_f86c9, 4, (some .long))
abbrev mJ0_length_8abf5 : zMI := (yJ0_length_8abf5, cJ0_length_8abf5, 1, (some .int))
abbrev mJ0_charAt_5068e : zMI := (yJ0_charAt_5068e, cJ0_charAt_5068e, 2, (some .char))
abbrev mJ0_indexOf_0f7a4 : zMI := (yJ0_indexOf_0f7a4, cJ0_indexOf_0f7a4, 2, (some .int))
abbrev mJ0_indexOf_7cf53 : zMI := (yJ0_indexOf_7cf53, cJ0_indexOf_7cf53, 3, (some .int))
abbrev mJ0_coder_7d493 : zMI := (yJ0_coder_7d493, cJ0_coder_7d493, 1, (some .byte))
abbrev mJ0_isLatin1_aae02 : zMI := (yJ0_isLatin1_aae02, cJ0_isLatin1_aae02, 1, (some .boolean))
abbrev mJ0_checkIndex_df160 : zMI := (yJ0_checkIndex_df160, cJ0_checkIndex_df160, 2, none)
abbrev mJ0_checkBoundsBeginEnd_23922 : zMI := (yJ0_checkBoundsBeginEnd_23922, cJ0_checkBoundsBeginEnd_23922, 3, none)
abbrev mJ1_charAt_3b067 : zMI := (yJ1_charAt_3b067, cJ1_charAt_3b067, 2, (some .char))
abbrev mJ1_canEncode_9a6ad : zMI := (yJ1_canEncode_9a6ad, cJ1_canEncode_9a6ad, 1, (some .boolean))
abbrev mJ1_indexOf_4cfef : zMI := (yJ1_indexOf_4cfef, cJ1_indexOf_4cfef, 4, (some .int))
abbrev mJ1_indexOfChar_4cfef : zMI := (yJ1_indexOfChar_4cfef, cJ1_indexOfChar_4cfef, 6, (some .int))
abbrev mJ2_getChar_3b067 : zMI := (yJ2_getChar_3b067, cJ2_getChar_3b067, 2, (some .char))
abbrev mJ2_length_9d52b : zMI := (yJ2_length_9d52b, cJ2_length_9d52b, 1, (some .int))
abbrev mJ2_indexOf_4cfef : zMI := (yJ2_indexOf_4cfef, cJ2_indexOf_4cfef, 4, (some .int))
abbrev mJ2_indexOfChar_4cfef : zMI := (yJ2_indexOfChar_4cfef, cJ2_indexOfChar_4cfef, 4, (some .int))
abbrev mJ2_indexOfCharUnsafe_4cfef : zMI := (yJ2_indexOfCharUnsafe_4cfef, cJ2_indexOfCharUnsafe_4cfef, 5, (some .int))
abbrev mJ2_indexOfSupplementary_4cfef : zMI := (yJ2_indexOfSupplementary_4cfef, cJ2_indexOfSupplementary_4cfef, 7, (some .int))
abbrev mJ2_charAt_3b067 : zMI := (yJ2_charAt_3b067, cJ2_charAt_3b067, 2, (some .char))
abbrev mJ2_checkIndex_2214a : zMI := (yJ2_checkIndex_2214a, cJ2_checkIndex_2214a, 2, none)
abbrev mJ2_checkBoundsBeginEnd_d044e : zMI := (yJ2_checkBoundsBeginEnd_d044e, cJ2_checkBoundsBeginEnd_d044e, 3, none)
abbrev mJ7_rangeCheck_23922 : zMI := (yJ7_rangeCheck_23922, cJ7_rangeCheck_23922, 3, none)
abbrev mJ7_fill_d0a16 : zMI := (yJ7_fill_d0a16, cJ7_fill_d0a16, 5, none)
abbrev mJ7_fill_bad5a : zMI := (yJ7_fill_bad5a, cJ7_fill_bad5a, 6, none)
abbrev mJ7_fill_53178 : zMI := (yJ7_fill_53178, cJ7_fill_53178, 4, none)
abbrev mJ3_checkIndex_8e157 : zMI := (yJ3_checkIndex_8e157, cJ3_checkIndex_8e157, 3, (some .int))
abbrev mJ3_checkFromToIndex_8c36e : zMI := (yJ3_checkFromToIndex_8c36e, cJ3_checkFromToIndex_8c36e, 4, (some .int))
theorem moX10_3 : Cond.methodLink RX10 3 Lib.objectInit ∈ TB ∧ Cond.instanceMethod Lib.objectInit ∈ TB ∧ Cond.code Lib.objectInit ⟨#[0xb1]⟩ 1 none ∈ TB := ⟨tb_at 27 (by decide +kernel) rfl, tb_at 28 (by decide +kernel) rfl, tb_at 29 (by decide +kernel) rfl⟩
theorem miX10_11 : zMi RX10 11 mX9_init 0 := ⟨Or.inr ⟨"BreathRoad", List.mem_of_getElem? (i := 0) rfl⟩, rfl, rfl, tb_at 33 (by decide +kernel) rfl, tb_at 2 (by decide +kernel) rfl, tb_at 34 (by decide +kernel) rfl, ⟨by decide +kernel, by decide +kernel, by decide +kernel⟩, by decide⟩
theorem miX10_18 : zMi RX10 18 mX7_init 0 := ⟨Or.inr ⟨"BreathRoad", List.mem_of_getElem? (i := 1) rfl⟩, rfl, rfl, tb_at 51 (by decide +kernel) rfl, tb_at 3 (by decide +kernel) rfl, tb_at 52 (by decide +kernel) rfl, ⟨by decide +kernel, by decide +kernel, by decide +kernel⟩, by decide⟩
theorem miX10_25 : zMi RX10 25 mX2_init 0 := ⟨Or.inr ⟨"BreathRoad", List.mem_of_getElem? (i := 2) rfl⟩, rfl, rfl, tb_at 63 (by decide +kernel) rfl, tb_at 4 (by decide +kernel) rfl, tb_at 64 (by decide +kernel) rfl, ⟨by decide +kernel, by decide +kernel, by decide +kernel⟩, by decide⟩
theorem miX10_34 : zMi RX10 34 mX6_init 0 := ⟨Or.inr ⟨"BreathRoad", List.mem_of_getElem? (i := 3) rfl⟩, rfl, rfl, tb_at 82 (by decide +kernel) rfl, tb_at 6 (by decide +kernel) rfl, tb_at 83 (by decide +kernel) rfl, ⟨by decide +kernel, by decide +kernel, by decide +kernel⟩, by decide⟩
theorem miX10_35 : zMi RX10 35 mX4_init 2 := ⟨Or.inl (tb_at 202 (by decide +kernel) rfl), rfl, rfl, tb_at 203 (by decide +kernel) rfl, tb_at 5 (by decide +kernel) rfl, tb_at 204 (by decide +kernel) rfl, ⟨by decide +kernel, by decide +kernel, by decide +kernel⟩, by decide⟩
theorem miX10_44 : zMi RX10 44 mX0_init 1 := ⟨Or.inl (tb_at 226 (by decide +kernel) rfl), rfl, rfl, tb_at 227 (by decide +kernel) rfl, tb_at 8 (by decide +kernel) rfl, tb_at 228 (by decide +kernel) rfl, ⟨by decide +kernel, by decide +kernel, by decide +kernel⟩, by decide⟩
theorem miX10_53 : zMi RX10 53 mX1_init 0 := ⟨Or.inr ⟨"BreathRoad", List.mem_of_getElem? (i := 5) rfl⟩, rfl, rfl, tb_at 279 (by decide +kernel) rfl, tb_at 9 (by decide +kernel) rfl, tb_at 280 (by decide +kernel) rfl, ⟨by decide +kernel, by decide +kernel, by decide +kernel⟩, by decide⟩
theorem miX10_60 : zMi RX10 60 mX3_init 0 := ⟨Or.inr ⟨"BreathRoad", List.mem_of_getElem? (i := 6) rfl⟩, rfl, rfl, tb_at 300 (by decide +kernel) rfl, tb_at 10 (by decide +kernel) rfl, tb_at 301 (by decide +kernel) rfl, ⟨by decide +kernel, by decide +kernel, by decide +kernel⟩, by decide⟩
theorem miX10_75 : zMi RX10 75 mX5_init 2 := ⟨Or.inl (tb_at 314 (by decide +kernel) rfl), rfl, rfl, tb_at 315 (by decide +kernel) rfl, tb_at 11 (by decide +kernel) rfl, tb_at 316 (by decide +kernel) rfl, ⟨by decide +kernel, by decide +kernel, by decide +kernel⟩, by decide⟩
theorem mwX10_89 : zMv RX10 89 mX10_refuse 1 := ⟨tb_at 444 (by decide +kernel) rfl, tb_at 446 (by decide +kernel) rfl, tb_pv (q := (yX10_refuse, 11)) (List.mem_of_getElem? (i := 0) (by decide +kernel)), tb_at 1 (by decide +kernel) rfl, tb_at 447 (by decide +kernel) rfl, ⟨by decide +kernel, by decide +kernel, by decide +kernel⟩, by decide⟩
theorem mwX10_93 : zMv RX10 93 mX9_addNumber 1 := ⟨tb_at 448 (by decide +kernel) rfl, tb_at 449 (by decide +kernel) rfl, tb_at 450 (by decide +kernel) rfl, tb_at 2 (by decide +kernel) rfl, tb_at 451 (by decide +kernel) rfl, ⟨by decide +kernel, by decide +kernel, by decide +kernel⟩, by decide⟩
theorem mwX10_97 : zMv RX10 97 mX5_begin 1 := ⟨tb_at 460 (by decide +kernel) rfl, tb_at 461 (by decide +kernel) rfl, tb_at 462 (by decide +kernel) rfl, tb_at 11 (by decide +kernel) rfl, tb_at 463 (by decide +kernel) rfl, ⟨by decide +kernel, by decide +kernel, by decide +kernel⟩, by decide⟩
theorem mwX10_101 : zMv RX10 101 mX5_isGoingOn 0 := ⟨tb_at 573 (by decide +kernel) rfl, tb_at 574 (by decide +kernel) rfl, tb_at 575 (by decide +kernel) rfl, tb_at 11 (by decide +kernel) rfl, tb_at 576 (by decide +kernel) rfl, ⟨by decide +kernel, by decide +kernel, by decide +kernel⟩, by decide⟩
theorem mwX10_105 : zMv RX10 105 mX5_readStatement 0 := ⟨tb_at 577 (by decide +kernel) rfl, tb_at 578 (by decide +kernel) rfl, tb_at 579 (by decide +kernel) rfl, tb_at 11 (by decide +kernel) rfl, tb_at 580 (by decide +kernel) rfl, ⟨by decide +kernel, by decide +kernel, by decide +kernel⟩, by decide⟩
theorem mwX10_114 : zMv RX10 114 mX7_begin 1 := ⟨tb_at 726 (by decide +kernel) rfl, tb_at 727 (by decide +kernel) rfl, tb_at 728 (by decide +kernel) rfl, tb_at 3 (by decide +kernel) rfl, tb_at 729 (by decide +kernel) rfl, ⟨by decide +kernel, by decide +kernel, by decide +kernel⟩, by decide⟩
theorem mwX10_119 : zMv RX10 119 mX0_forget 0 := ⟨tb_at 733 (by decide +kernel) rfl, tb_at 734 (by decide +kernel) rfl, tb_at 735 (by decide +kernel) rfl, tb_at 8 (by decide +kernel) rfl, tb_at 736 (by decide +kernel) rfl, ⟨by decide +kernel, by decide +kernel, by decide +kernel⟩, by decide⟩
theorem mwX10_140 : zMv RX10 140 mX7_nextTunnel 0 := ⟨tb_at 745 (by decide +kernel) rfl, tb_at 746 (by decide +kernel) rfl, tb_at 747 (by decide +kernel) rfl, tb_at 3 (by decide +kernel) rfl, tb_at 748 (by decide +kernel) rfl, ⟨by decide +kernel, by decide +kernel, by decide +kernel⟩, by decide⟩
theorem mwX10_144 : zMv RX10 144 mX7_keptCount 0 := ⟨tb_at 749 (by decide +kernel) rfl, tb_at 750 (by decide +kernel) rfl, tb_at 751 (by decide +kernel) rfl, tb_at 3 (by decide +kernel) rfl, tb_at 752 (by decide +kernel) rfl, ⟨by decide +kernel, by decide +kernel, by decide +kernel⟩, by decide⟩
theorem mwX10_147 : zMv RX10 147 mX6_hasTunnel 1 := ⟨tb_at 758 (by decide +kernel) rfl, tb_at 651 (by decide +kernel) rfl, tb_at 652 (by decide +kernel) rfl, tb_at 6 (by decide +kernel) rfl, tb_at 653 (by decide +kernel) rfl, ⟨by decide +kernel, by decide +kernel, by decide +kernel⟩, by decide⟩
theorem mwX10_154 : zMs RX10 154 mX5_letterOf 2 := ⟨tb_at 759 (by decide +kernel) rfl, tb_at 760 (by decide +kernel) rfl, tb_at 11 (by decide +kernel) rfl, tb_at 761 (by decide +kernel) rfl, ⟨by decide +kernel, by decide +kernel, by decide +kernel⟩, by decide⟩
theorem mwX10_158 : zMv RX10 158 mX6_hasHolder 1 := ⟨tb_at 762 (by decide +kernel) rfl, tb_at 647 (by decide +kernel) rfl, tb_at 648 (by decide +kernel) rfl, tb_at 6 (by decide +kernel) rfl, tb_at 649 (by decide +kernel) rfl, ⟨by decide +kernel, by decide +kernel, by decide +kernel⟩, by decide⟩
theorem mwX10_167 : zMv RX10 167 mX6_lengthAt 2 := ⟨tb_at 767 (by decide +kernel) rfl, tb_at 619 (by decide +kernel) rfl, tb_at 620 (by decide +kernel) rfl, tb_at 6 (by decide +kernel) rfl, tb_at 621 (by decide +kernel) rfl, ⟨by decide +kernel, by decide +kernel, by decide +kernel⟩, by decide⟩
theorem mwX10_170 : zMv RX10 170 mX6_weightAt 2 := ⟨tb_at 768 (by decide +kernel) rfl, tb_at 769 (by decide +kernel) rfl, tb_at 770 (by decide +kernel) rfl, tb_at 6 (by decide +kernel) rfl, tb_at 771 (by decide +kernel) rfl, ⟨by decide +kernel, by decide +kernel, by decide +kernel⟩, by decide⟩
theorem mwX10_176 : zMv RX10 176 mX6_allWeights 1 := ⟨tb_at 772 (by decide +kernel) rfl, tb_at 773 (by decide +kernel) rfl, tb_at 774 (by decide +kernel) rfl, tb_at 6 (by decide +kernel) rfl, tb_at 775 (by decide +kernel) rfl, ⟨by decide +kernel, by decide +kernel, by decide +kernel⟩, by decide⟩
theorem mwX10_179 : zMv RX10 179 mX7_thinksOf 2 := ⟨tb_at 781 (by decide +kernel) rfl, tb_at 782 (by decide +kernel) rfl, tb_at 783 (by decide +kernel) rfl, tb_at 3 (by decide +kernel) rfl, tb_at 784 (by decide +kernel) rfl, ⟨by decide +kernel, by decide +kernel, by decide +kernel⟩, by decide⟩
theorem mwX10_182 : zMv RX10 182 mX7_breathOf 1 := ⟨tb_at 785 (by decide +kernel) rfl, tb_at 786 (by decide +kernel) rfl, tb_at 787 (by decide +kernel) rfl, tb_at 3 (by decide +kernel) rfl, tb_at 788 (by decide +kernel) rfl, ⟨by decide +kernel, by decide +kernel, by decide +kernel⟩, by decide⟩
theorem mwX10_191 : zMv RX10 191 mX7_givesOf 1 := ⟨tb_at 789 (by decide +kernel) rfl, tb_at 790 (by decide +kernel) rfl, tb_at 791 (by decide +kernel) rfl, tb_at 3 (by decide +kernel) rfl, tb_at 792 (by decide +kernel) rfl, ⟨by decide +kernel, by decide +kernel, by decide +kernel⟩, by decide⟩
theorem mwX10_194 : zMv RX10 194 mX7_scoreOf 1 := ⟨tb_at 797 (by decide +kernel) rfl, tb_at 798 (by decide +kernel) rfl, tb_at 799 (by decide +kernel) rfl, tb_at 3 (by decide +kernel) rfl, tb_at 800 (by decide +kernel) rfl, ⟨by decide +kernel, by decide +kernel, by decide +kernel⟩, by decide⟩
theorem mwX10_198 : zMs RX10 198 mX10_thousandths 2 := ⟨tb_at 806 (by decide +kernel) rfl, tb_at 807 (by decide +kernel) rfl, tb_at 1 (by decide +kernel) rfl, tb_at 808 (by decide +kernel) rfl, ⟨by decide +kernel, by decide +kernel, by decide +kernel⟩, by decide⟩
theorem mwX10_202 : zMv RX10 202 mX6_hasBoth 2 := ⟨tb_at 817 (by decide +kernel) rfl, tb_at 643 (by decide +kernel) rfl, tb_at 644 (by decide +kernel) rfl, tb_at 6 (by decide +kernel) rfl, tb_at 645 (by decide +kernel) rfl, ⟨by decide +kernel, by decide +kernel, by decide +kernel⟩, by decide⟩
theorem mwX10_206 : zMs RX10 206 mX10_isLength 1 := ⟨tb_at 818 (by decide +kernel) rfl, tb_at 819 (by decide +kernel) rfl, tb_at 1 (by decide +kernel) rfl, tb_at 820 (by decide +kernel) rfl, ⟨by decide +kernel, by decide +kernel, by decide +kernel⟩, by decide⟩
theorem mwX10_209 : zMv RX10 209 mX4_secondsHeld 3 := ⟨tb_at 821 (by decide +kernel) rfl, tb_at 822 (by decide +kernel) rfl, tb_at 823 (by decide +kernel) rfl, tb_at 5 (by decide +kernel) rfl, tb_at 824 (by decide +kernel) rfl, ⟨by decide +kernel, by decide +kernel, by decide +kernel⟩, by decide⟩
theorem mwX10_213 : zMv RX10 213 mX4_allHold 2 := ⟨tb_at 837 (by decide +kernel) rfl, tb_at 838 (by decide +kernel) rfl, tb_at 839 (by decide +kernel) rfl, tb_at 5 (by decide +kernel) rfl, tb_at 840 (by decide +kernel) rfl, ⟨by decide +kernel, by decide +kernel, by decide +kernel⟩, by decide⟩
theorem mwX10_217 : zMv RX10 217 mX4_worthAmong 3 := ⟨tb_at 842 (by decide +kernel) rfl, tb_at 843 (by decide +kernel) rfl, tb_at 844 (by decide +kernel) rfl, tb_at 5 (by decide +kernel) rfl, tb_at 845 (by decide +kernel) rfl, ⟨by decide +kernel, by decide +kernel, by decide +kernel⟩, by decide⟩
theorem mwX10_220 : zMv RX10 220 mX4_tiredAlone 4 := ⟨tb_at 897 (by decide +kernel) rfl, tb_at 898 (by decide +kernel) rfl, tb_at 899 (by decide +kernel) rfl, tb_at 5 (by decide +kernel) rfl, tb_at 900 (by decide +kernel) rfl, ⟨by decide +kernel, by decide +kernel, by decide +kernel⟩, by decide⟩
theorem mwX10_224 : zMv RX10 224 mX0_plan 3 := ⟨tb_at 906 (by decide +kernel) rfl, tb_at 907 (by decide +kernel) rfl, tb_at 908 (by decide +kernel) rfl, tb_at 8 (by decide +kernel) rfl, tb_at 909 (by decide +kernel) rfl, ⟨by decide +kernel, by decide +kernel, by decide +kernel⟩, by decide⟩
theorem mwX10_238 : zMv RX10 238 mX0_settle 1 := ⟨tb_at 957 (by decide +kernel) rfl, tb_at 958 (by decide +kernel) rfl, tb_at 959 (by decide +kernel) rfl, tb_at 8 (by decide +kernel) rfl, tb_at 960 (by decide +kernel) rfl, ⟨by decide +kernel, by decide +kernel, by decide +kernel⟩, by decide⟩
theorem mwX10_247 : zMv RX10 247 mX0_hiddenTotal 2 := ⟨tb_at 975 (by decide +kernel) rfl, tb_at 976 (by decide +kernel) rfl, tb_at 977 (by decide +kernel) rfl, tb_at 8 (by decide +kernel) rfl, tb_at 978 (by decide +kernel) rfl, ⟨by decide +kernel, by decide +kernel, by decide +kernel⟩, by decide⟩
theorem mwX10_253 : zMv RX10 253 mX0_bestPace 2 := ⟨tb_at 985 (by decide +kernel) rfl, tb_at 986 (by decide +kernel) rfl, tb_at 987 (by decide +kernel) rfl, tb_at 8 (by decide +kernel) rfl, tb_at 988 (by decide +kernel) rfl, ⟨by decide +kernel, by decide +kernel, by decide +kernel⟩, by decide⟩
theorem mwX10_256 : zMv RX10 256 mX0_paceWeights 3 := ⟨tb_at 998 (by decide +kernel) rfl, tb_at 990 (by decide +kernel) rfl, tb_at 991 (by decide +kernel) rfl, tb_at 8 (by decide +kernel) rfl, tb_at 992 (by decide +kernel) rfl, ⟨by decide +kernel, by decide +kernel, by decide +kernel⟩, by decide⟩
theorem mwX10_259 : zMv RX10 259 mX0_bestToLaugh 2 := ⟨tb_at 1003 (by decide +kernel) rfl, tb_at 1004 (by decide +kernel) rfl, tb_at 1005 (by decide +kernel) rfl, tb_at 8 (by decide +kernel) rfl, tb_at 1006 (by decide +kernel) rfl, ⟨by decide +kernel, by decide +kernel, by decide +kernel⟩, by decide⟩
theorem mwX10_262 : zMv RX10 262 mX0_totalAmong 3 := ⟨tb_at 1013 (by decide +kernel) rfl, tb_at 1008 (by decide +kernel) rfl, tb_at 1009 (by decide +kernel) rfl, tb_at 8 (by decide +kernel) rfl, tb_at 1010 (by decide +kernel) rfl, ⟨by decide +kernel, by decide +kernel, by decide +kernel⟩, by decide⟩
theorem mwX10_266 : zMv RX10 266 mX1_take 3 := ⟨tb_at 1018 (by decide +kernel) rfl, tb_at 1019 (by decide +kernel) rfl, tb_at 1020 (by decide +kernel) rfl, tb_at 9 (by decide +kernel) rfl, tb_at 1021 (by decide +kernel) rfl, ⟨by decide +kernel, by decide +kernel, by decide +kernel⟩, by decide⟩
theorem mwX10_273 : zMv RX10 273 mX1_fitLength 2 := ⟨tb_at 1032 (by decide +kernel) rfl, tb_at 1033 (by decide +kernel) rfl, tb_at 1034 (by decide +kernel) rfl, tb_at 9 (by decide +kernel) rfl, tb_at 1035 (by decide +kernel) rfl, ⟨by decide +kernel, by decide +kernel, by decide +kernel⟩, by decide⟩
theorem mwX10_277 : zMs RX10 277 mJ6_bitCount_0f7a4 1 := ⟨tb_at 1037 (by decide +kernel) rfl, tb_at 1038 (by decide +kernel) rfl, tb_at 21 (by decide +kernel) rfl, tb_at 1039 (by decide +kernel) rfl, ⟨by decide +kernel, by decide +kernel, by decide +kernel⟩, by decide⟩
theorem mwX10_282 : zMv RX10 282 mX10_beginAct 0 := ⟨tb_at 1047 (by decide +kernel) rfl, tb_at 1049 (by decide +kernel) rfl, tb_pv (q := (yX10_beginAct, 11)) (List.mem_of_getElem? (i := 43) (by decide +kernel)), tb_at 1 (by decide +kernel) rfl, tb_at 1050 (by decide +kernel) rfl, ⟨by decide +kernel, by decide +kernel, by decide +kernel⟩, by decide⟩
theorem mwX10_285 : zMv RX10 285 mX10_driveThrough 0 := ⟨tb_at 1057 (by decide +kernel) rfl, tb_at 1059 (by decide +kernel) rfl, tb_pv (q := (yX10_driveThrough, 11)) (List.mem_of_getElem? (i := 44) (by decide +kernel)), tb_at 1 (by decide +kernel) rfl, tb_at 1060 (by decide +kernel) rfl, ⟨by decide +kernel, by decide +kernel, by decide +kernel⟩, by decide⟩
theorem mwX10_288 : zMv RX10 288 mX7_setBreath 2 := ⟨tb_at 1087 (by decide +kernel) rfl, tb_at 1088 (by decide +kernel) rfl, tb_at 1089 (by decide +kernel) rfl, tb_at 3 (by decide +kernel) rfl, tb_at 1090 (by decide +kernel) rfl, ⟨by decide +kernel, by decide +kernel, by decide +kernel⟩, by decide⟩
theorem mwX10_291 : zMs RX10 291 mX10_isSecond 1 := ⟨tb_at 1107 (by decide +kernel) rfl, tb_at 1026 (by decide +kernel) rfl, tb_at 1 (by decide +kernel) rfl, tb_at 1027 (by decide +kernel) rfl, ⟨by decide +kernel, by decide +kernel, by decide +kernel⟩, by decide⟩
theorem mwX10_294 : zMv RX10 294 mX7_setThinks 3 := ⟨tb_at 1108 (by decide +kernel) rfl, tb_at 1109 (by decide +kernel) rfl, tb_at 1110 (by decide +kernel) rfl, tb_at 3 (by decide +kernel) rfl, tb_at 1111 (by decide +kernel) rfl, ⟨by decide +kernel, by decide +kernel, by decide +kernel⟩, by decide⟩
theorem mwX10_297 : zMv RX10 297 mX7_setGives 2 := ⟨tb_at 1116 (by decide +kernel) rfl, tb_at 1117 (by decide +kernel) rfl, tb_at 1118 (by decide +kernel) rfl, tb_at 3 (by decide +kernel) rfl, tb_at 1119 (by decide +kernel) rfl, ⟨by decide +kernel, by decide +kernel, by decide +kernel⟩, by decide⟩
theorem mwX10_300 : zMv RX10 300 mX2_takeBack 1 := ⟨tb_at 1124 (by decide +kernel) rfl, tb_at 1125 (by decide +kernel) rfl, tb_at 1126 (by decide +kernel) rfl, tb_at 4 (by decide +kernel) rfl, tb_at 1127 (by decide +kernel) rfl, ⟨by decide +kernel, by decide +kernel, by decide +kernel⟩, by decide⟩
theorem mwX10_304 : zMv RX10 304 mX7_keptPart 2 := ⟨tb_at 1136 (by decide +kernel) rfl, tb_at 1137 (by decide +kernel) rfl, tb_at 1138 (by decide +kernel) rfl, tb_at 3 (by decide +kernel) rfl, tb_at 1139 (by decide +kernel) rfl, ⟨by decide +kernel, by decide +kernel, by decide +kernel⟩, by decide⟩
theorem mwX10_307 : zMv RX10 307 mX3_write 2 := ⟨tb_at 1145 (by decide +kernel) rfl, tb_at 1146 (by decide +kernel) rfl, tb_at 1147 (by decide +kernel) rfl, tb_at 10 (by decide +kernel) rfl, tb_at 1148 (by decide +kernel) rfl, ⟨by decide +kernel, by decide +kernel, by decide +kernel⟩, by decide⟩
theorem mwX10_314 : zMs RX10 314 mX3_isOf 2 := ⟨tb_at 1170 (by decide +kernel) rfl, tb_at 1171 (by decide +kernel) rfl, tb_at 10 (by decide +kernel) rfl, tb_at 1172 (by decide +kernel) rfl, ⟨by decide +kernel, by decide +kernel, by decide +kernel⟩, by decide⟩
theorem mwX10_318 : zMs RX10 318 mX3_putInto 3 := ⟨tb_at 1187 (by decide +kernel) rfl, tb_at 1188 (by decide +kernel) rfl, tb_at 10 (by decide +kernel) rfl, tb_at 1189 (by decide +kernel) rfl, ⟨by decide +kernel, by decide +kernel, by decide +kernel⟩, by decide⟩
theorem mwX10_322 : zMv RX10 322 mX2_add 1 := ⟨tb_at 1051 (by decide +kernel) rfl, tb_at 1052 (by decide +kernel) rfl, tb_at 1053 (by decide +kernel) rfl, tb_at 4 (by decide +kernel) rfl, tb_at 1054 (by decide +kernel) rfl, ⟨by decide +kernel, by decide +kernel, by decide +kernel⟩, by decide⟩
theorem mwX10_325 : zMv RX10 325 mX10_drawLength 1 := ⟨tb_at 1061 (by decide +kernel) rfl, tb_at 1063 (by decide +kernel) rfl, tb_pv (q := (yX10_drawLength, 11)) (List.mem_of_getElem? (i := 45) (by decide +kernel)), tb_at 1 (by decide +kernel) rfl, tb_at 1064 (by decide +kernel) rfl, ⟨by decide +kernel, by decide +kernel, by decide +kernel⟩, by decide⟩
theorem mwX10_331 : zMv RX10 331 mX10_drawHeld 2 := ⟨tb_at 1072 (by decide +kernel) rfl, tb_at 1074 (by decide +kernel) rfl, tb_pv (q := (yX10_drawHeld, 11)) (List.mem_of_getElem? (i := 47) (by decide +kernel)), tb_at 1 (by decide +kernel) rfl, tb_at 1075 (by decide +kernel) rfl, ⟨by decide +kernel, by decide +kernel, by decide +kernel⟩, by decide⟩
theorem mwX10_334 : zMv RX10 334 mX7_addScore 2 := ⟨tb_at 1076 (by decide +kernel) rfl, tb_at 1077 (by decide +kernel) rfl, tb_at 1078 (by decide +kernel) rfl, tb_at 3 (by decide +kernel) rfl, tb_at 1079 (by decide +kernel) rfl, ⟨by decide +kernel, by decide +kernel, by decide +kernel⟩, by decide⟩
theorem mwX10_337 : zMv RX10 337 mX4_tiredAmong 3 := ⟨tb_at 1083 (by decide +kernel) rfl, tb_at 1084 (by decide +kernel) rfl, tb_at 1085 (by decide +kernel) rfl, tb_at 5 (by decide +kernel) rfl, tb_at 1086 (by decide +kernel) rfl, ⟨by decide +kernel, by decide +kernel, by decide +kernel⟩, by decide⟩
theorem mwX10_340 : zMv RX10 340 mX7_keep 4 := ⟨tb_at 1091 (by decide +kernel) rfl, tb_at 1092 (by decide +kernel) rfl, tb_at 1093 (by decide +kernel) rfl, tb_at 3 (by decide +kernel) rfl, tb_at 1094 (by decide +kernel) rfl, ⟨by decide +kernel, by decide +kernel, by decide +kernel⟩, by decide⟩
theorem mwX10_344 : zMv RX10 344 mX7_setNextTunnel 1 := ⟨tb_at 1095 (by decide +kernel) rfl, tb_at 1096 (by decide +kernel) rfl, tb_at 1097 (by decide +kernel) rfl, tb_at 3 (by decide +kernel) rfl, tb_at 1098 (by decide +kernel) rfl, ⟨by decide +kernel, by decide +kernel, by decide +kernel⟩, by decide⟩
theorem mwX10_347 : zMv RX10 347 mX10_draw 1 := ⟨tb_at 1065 (by decide +kernel) rfl, tb_at 1067 (by decide +kernel) rfl, tb_pv (q := (yX10_draw, 11)) (List.mem_of_getElem? (i := 46) (by decide +kernel)), tb_at 1 (by decide +kernel) rfl, tb_at 1068 (by decide +kernel) rfl, ⟨by decide +kernel, by decide +kernel, by decide +kernel⟩, by decide⟩
theorem mwX10_358 : zMs RX10 358 mJ9_floorDiv_f86c9 2 := ⟨tb_at 810 (by decide +kernel) rfl, tb_at 811 (by decide +kernel) rfl, tb_at 18 (by decide +kernel) rfl, tb_at 812 (by decide +kernel) rfl, ⟨by decide +kernel, by decide +kernel, by decide +kernel⟩, by decide⟩
theorem mwX10_364 : zMs RX10 364 mJ9_min_7cf53 2 := ⟨tb_at 891 (by decide +kernel) rfl, tb_at 533 (by decide +kernel) rfl, tb_at 18 (by decide +kernel) rfl, tb_at 534 (by decide +kernel) rfl, ⟨by decide +kernel, by decide +kernel, by decide +kernel⟩, by decide⟩
theorem mwX10_367 : zMs RX10 367 mJ9_max_7cf53 2 := ⟨tb_at 892 (by decide +kernel) rfl, tb_at 530 (by decide +kernel) rfl, tb_at 18 (by decide +kernel) rfl, tb_at 531 (by decide +kernel) rfl, ⟨by decide +kernel, by decide +kernel, by decide +kernel⟩, by decide⟩
theorem moX0_3 : Cond.methodLink RX0 3 Lib.objectInit ∈ TB ∧ Cond.instanceMethod Lib.objectInit ∈ TB ∧ Cond.code Lib.objectInit ⟨#[0xb1]⟩ 1 none ∈ TB := ⟨tb_at 229 (by decide +kernel) rfl, tb_at 28 (by decide +kernel) rfl, tb_at 29 (by decide +kernel) rfl⟩
theorem mwX0_61 : zMv RX0 61 mX0_tunnelAt 1 := ⟨tb_at 910 (by decide +kernel) rfl, tb_at 912 (by decide +kernel) rfl, tb_pv (q := (yX0_tunnelAt, 13)) (List.mem_of_getElem? (i := 36) (by decide +kernel)), tb_at 8 (by decide +kernel) rfl, tb_at 913 (by decide +kernel) rfl, ⟨by decide +kernel, by decide +kernel, by decide +kernel⟩, by decide⟩
theorem mwX0_65 : zMv RX0 65 mX6_allWeights 1 := ⟨tb_at 914 (by decide +kernel) rfl, tb_at 773 (by decide +kernel) rfl, tb_at 774 (by decide +kernel) rfl, tb_at 6 (by decide +kernel) rfl, tb_at 775 (by decide +kernel) rfl, ⟨by decide +kernel, by decide +kernel, by decide +kernel⟩, by decide⟩
theorem mwX0_72 : zMs RX0 72 mJ7_fill_d0a16 2 := ⟨tb_at 916 (by decide +kernel) rfl, tb_at 917 (by decide +kernel) rfl, tb_at 17 (by decide +kernel) rfl, tb_at 918 (by decide +kernel) rfl, ⟨by decide +kernel, by decide +kernel, by decide +kernel⟩, by decide⟩
theorem mwX0_78 : zMv RX0 78 mX0_bestFrom 2 := ⟨tb_at 919 (by decide +kernel) rfl, tb_at 921 (by decide +kernel) rfl, tb_pv (q := (yX0_bestFrom, 13)) (List.mem_of_getElem? (i := 37) (by decide +kernel)), tb_at 8 (by decide +kernel) rfl, tb_at 922 (by decide +kernel) rfl, ⟨by decide +kernel, by decide +kernel, by decide +kernel⟩, by decide⟩
theorem mwX0_82 : zMv RX0 82 mX0_bestSecond 2 := ⟨tb_at 945 (by decide +kernel) rfl, tb_at 947 (by decide +kernel) rfl, tb_pv (q := (yX0_bestSecond, 13)) (List.mem_of_getElem? (i := 40) (by decide +kernel)), tb_at 8 (by decide +kernel) rfl, tb_at 948 (by decide +kernel) rfl, ⟨by decide +kernel, by decide +kernel, by decide +kernel⟩, by decide⟩
theorem mwX0_89 : zMs RX0 89 mJ7_fill_bad5a 4 := ⟨tb_at 923 (by decide +kernel) rfl, tb_at 924 (by decide +kernel) rfl, tb_at 17 (by decide +kernel) rfl, tb_at 925 (by decide +kernel) rfl, ⟨by decide +kernel, by decide +kernel, by decide +kernel⟩, by decide⟩
theorem mwX0_95 : zMv RX0 95 mX0_addPlanned 3 := ⟨tb_at 929 (by decide +kernel) rfl, tb_at 931 (by decide +kernel) rfl, tb_pv (q := (yX0_addPlanned, 13)) (List.mem_of_getElem? (i := 38) (by decide +kernel)), tb_at 8 (by decide +kernel) rfl, tb_at 932 (by decide +kernel) rfl, ⟨by decide +kernel, by decide +kernel, by decide +kernel⟩, by decide⟩
theorem mwX0_99 : zMv RX0 99 mX6_lengthAt 2 := ⟨tb_at 933 (by decide +kernel) rfl, tb_at 619 (by decide +kernel) rfl, tb_at 620 (by decide +kernel) rfl, tb_at 6 (by decide +kernel) rfl, tb_at 621 (by decide +kernel) rfl, ⟨by decide +kernel, by decide +kernel, by decide +kernel⟩, by decide⟩
theorem mwX0_102 : zMv RX0 102 mX6_weightAt 2 := ⟨tb_at 934 (by decide +kernel) rfl, tb_at 769 (by decide +kernel) rfl, tb_at 770 (by decide +kernel) rfl, tb_at 6 (by decide +kernel) rfl, tb_at 771 (by decide +kernel) rfl, ⟨by decide +kernel, by decide +kernel, by decide +kernel⟩, by decide⟩
theorem mwX0_105 : zMs RX0 105 mJ9_min_7cf53 2 := ⟨tb_at 935 (by decide +kernel) rfl, tb_at 533 (by decide +kernel) rfl, tb_at 18 (by decide +kernel) rfl, tb_at 534 (by decide +kernel) rfl, ⟨by decide +kernel, by decide +kernel, by decide +kernel⟩, by decide⟩
theorem mwX0_110 : zMv RX0 110 mX4_worthAlone 4 := ⟨tb_at 936 (by decide +kernel) rfl, tb_at 937 (by decide +kernel) rfl, tb_at 938 (by decide +kernel) rfl, tb_at 5 (by decide +kernel) rfl, tb_at 939 (by decide +kernel) rfl, ⟨by decide +kernel, by decide +kernel, by decide +kernel⟩, by decide⟩
theorem mwX0_114 : zMv RX0 114 mX4_tiredAlone 4 := ⟨tb_at 940 (by decide +kernel) rfl, tb_at 898 (by decide +kernel) rfl, tb_at 899 (by decide +kernel) rfl, tb_at 5 (by decide +kernel) rfl, tb_at 900 (by decide +kernel) rfl, ⟨by decide +kernel, by decide +kernel, by decide +kernel⟩, by decide⟩
theorem mwX0_117 : zMv RX0 117 mX0_addToSeconds 4 := ⟨tb_at 941 (by decide +kernel) rfl, tb_at 943 (by decide +kernel) rfl, tb_pv (q := (yX0_addToSeconds, 13)) (List.mem_of_getElem? (i := 39) (by decide +kernel)), tb_at 8 (by decide +kernel) rfl, tb_at 944 (by decide +kernel) rfl, ⟨by decide +kernel, by decide +kernel, by decide +kernel⟩, by decide⟩
theorem mwX0_128 : zMv RX0 128 mX7_breathOf 1 := ⟨tb_at 961 (by decide +kernel) rfl, tb_at 786 (by decide +kernel) rfl, tb_at 787 (by decide +kernel) rfl, tb_at 3 (by decide +kernel) rfl, tb_at 788 (by decide +kernel) rfl, ⟨by decide +kernel, by decide +kernel, by decide +kernel⟩, by decide⟩
theorem mwX0_133 : zMv RX0 133 mX0_isAnyMoved 1 := ⟨tb_at 962 (by decide +kernel) rfl, tb_at 964 (by decide +kernel) rfl, tb_pv (q := (yX0_isAnyMoved, 13)) (List.mem_of_getElem? (i := 41) (by decide +kernel)), tb_at 8 (by decide +kernel) rfl, tb_at 965 (by decide +kernel) rfl, ⟨by decide +kernel, by decide +kernel, by decide +kernel⟩, by decide⟩
theorem mwX0_137 : zMv RX0 137 mX0_fillAgainstOthers 3 := ⟨tb_at 966 (by decide +kernel) rfl, tb_at 968 (by decide +kernel) rfl, tb_pv (q := (yX0_fillAgainstOthers, 13)) (List.mem_of_getElem? (i := 42) (by decide +kernel)), tb_at 8 (by decide +kernel) rfl, tb_at 969 (by decide +kernel) rfl, ⟨by decide +kernel, by decide +kernel, by decide +kernel⟩, by decide⟩
theorem mwX0_143 : zMv RX0 143 mX4_worthAmong 3 := ⟨tb_at 970 (by decide +kernel) rfl, tb_at 843 (by decide +kernel) rfl, tb_at 844 (by decide +kernel) rfl, tb_at 5 (by decide +kernel) rfl, tb_at 845 (by decide +kernel) rfl, ⟨by decide +kernel, by decide +kernel, by decide +kernel⟩, by decide⟩
theorem mwX0_155 : zMv RX0 155 mX0_paceWeights 3 := ⟨tb_at 989 (by decide +kernel) rfl, tb_at 990 (by decide +kernel) rfl, tb_at 991 (by decide +kernel) rfl, tb_at 8 (by decide +kernel) rfl, tb_at 992 (by decide +kernel) rfl, ⟨by decide +kernel, by decide +kernel, by decide +kernel⟩, by decide⟩
theorem mwX0_158 : zMs RX0 158 mJ9_max_7cf53 2 := ⟨tb_at 993 (by decide +kernel) rfl, tb_at 530 (by decide +kernel) rfl, tb_at 18 (by decide +kernel) rfl, tb_at 531 (by decide +kernel) rfl, ⟨by decide +kernel, by decide +kernel, by decide +kernel⟩, by decide⟩
theorem mwX0_161 : zMv RX0 161 mX4_madeBits 2 := ⟨tb_at 994 (by decide +kernel) rfl, tb_at 995 (by decide +kernel) rfl, tb_at 996 (by decide +kernel) rfl, tb_at 5 (by decide +kernel) rfl, tb_at 997 (by decide +kernel) rfl, ⟨by decide +kernel, by decide +kernel, by decide +kernel⟩, by decide⟩
theorem mwX0_164 : zMv RX0 164 mX0_totalAmong 3 := ⟨tb_at 1007 (by decide +kernel) rfl, tb_at 1008 (by decide +kernel) rfl, tb_at 1009 (by decide +kernel) rfl, tb_at 8 (by decide +kernel) rfl, tb_at 1010 (by decide +kernel) rfl, ⟨by decide +kernel, by decide +kernel, by decide +kernel⟩, by decide⟩
theorem mwX0_168 : zMv RX0 168 mX4_allHold 2 := ⟨tb_at 1011 (by decide +kernel) rfl, tb_at 838 (by decide +kernel) rfl, tb_at 839 (by decide +kernel) rfl, tb_at 5 (by decide +kernel) rfl, tb_at 840 (by decide +kernel) rfl, ⟨by decide +kernel, by decide +kernel, by decide +kernel⟩, by decide⟩
theorem mwX0_172 : zMv RX0 172 mX6_hasHolder 1 := ⟨tb_at 1012 (by decide +kernel) rfl, tb_at 647 (by decide +kernel) rfl, tb_at 648 (by decide +kernel) rfl, tb_at 6 (by decide +kernel) rfl, tb_at 649 (by decide +kernel) rfl, ⟨by decide +kernel, by decide +kernel, by decide +kernel⟩, by decide⟩
theorem moX1_3 : Cond.methodLink RX1 3 Lib.objectInit ∈ TB ∧ Cond.instanceMethod Lib.objectInit ∈ TB ∧ Cond.code Lib.objectInit ⟨#[0xb1]⟩ 1 none ∈ TB := ⟨tb_at 281 (by decide +kernel) rfl, tb_at 28 (by decide +kernel) rfl, tb_at 29 (by decide +kernel) rfl⟩
theorem mwX1_30 : zMv RX1 30 mX6_hasTunnel 1 := ⟨tb_at 1022 (by decide +kernel) rfl, tb_at 651 (by decide +kernel) rfl, tb_at 652 (by decide +kernel) rfl, tb_at 6 (by decide +kernel) rfl, tb_at 653 (by decide +kernel) rfl, ⟨by decide +kernel, by decide +kernel, by decide +kernel⟩, by decide⟩
theorem mwX1_36 : zMv RX1 36 mX9_byteAt 1 := ⟨tb_at 1023 (by decide +kernel) rfl, tb_at 485 (by decide +kernel) rfl, tb_at 486 (by decide +kernel) rfl, tb_at 2 (by decide +kernel) rfl, tb_at 487 (by decide +kernel) rfl, ⟨by decide +kernel, by decide +kernel, by decide +kernel⟩, by decide⟩
theorem mwX1_40 : zMv RX1 40 mX6_hasHolder 1 := ⟨tb_at 1024 (by decide +kernel) rfl, tb_at 647 (by decide +kernel) rfl, tb_at 648 (by decide +kernel) rfl, tb_at 6 (by decide +kernel) rfl, tb_at 649 (by decide +kernel) rfl, ⟨by decide +kernel, by decide +kernel, by decide +kernel⟩, by decide⟩
theorem mwX1_43 : zMt RX1 43 mX10_isSecond 1 := ⟨⟨"BreathRoad", List.mem_of_getElem? (i := 8) rfl⟩, tb_at 1026 (by decide +kernel) rfl, tb_at 1 (by decide +kernel) rfl, tb_at 1027 (by decide +kernel) rfl, ⟨by decide +kernel, by decide +kernel, by decide +kernel⟩, by decide⟩
theorem mwX1_46 : zMv RX1 46 mX4_secondsHeld 3 := ⟨tb_at 1036 (by decide +kernel) rfl, tb_at 822 (by decide +kernel) rfl, tb_at 823 (by decide +kernel) rfl, tb_at 5 (by decide +kernel) rfl, tb_at 824 (by decide +kernel) rfl, ⟨by decide +kernel, by decide +kernel, by decide +kernel⟩, by decide⟩
theorem moX2_3 : Cond.methodLink RX2 3 Lib.objectInit ∈ TB ∧ Cond.instanceMethod Lib.objectInit ∈ TB ∧ Cond.code Lib.objectInit ⟨#[0xb1]⟩ 1 none ∈ TB := ⟨tb_at 65 (by decide +kernel) rfl, tb_at 28 (by decide +kernel) rfl, tb_at 29 (by decide +kernel) rfl⟩
theorem mcX2_27 : Cond.methodLink RX2 27 arraycopyName ∈ TB ∧ Cond.native arraycopyName ∈ TB ∧ Cond.static arraycopyName ∈ TB ∧ Cond.initialized "java/lang/System" ∈ TB := ⟨tb_at 1055 (by decide +kernel) rfl, tb_at 732 (by decide +kernel) rfl, tb_at 731 (by decide +kernel) rfl, tb_at 20 (by decide +kernel) rfl⟩
theorem mwX2_33 : zMs RX2 33 mJ9_min_7cf53 2 := ⟨tb_at 1056 (by decide +kernel) rfl, tb_at 533 (by decide +kernel) rfl, tb_at 18 (by decide +kernel) rfl, tb_at 534 (by decide +kernel) rfl, ⟨by decide +kernel, by decide +kernel, by decide +kernel⟩, by decide⟩
theorem moX3_3 : Cond.methodLink RX3 3 Lib.objectInit ∈ TB ∧ Cond.instanceMethod Lib.objectInit ∈ TB ∧ Cond.code Lib.objectInit ⟨#[0xb1]⟩ 1 none ∈ TB := ⟨tb_at 302 (by decide +kernel) rfl, tb_at 28 (by decide +kernel) rfl, tb_at 29 (by decide +kernel) rfl⟩
theorem mwX3_19 : zMv RX3 19 mX7_nextTunnel 0 := ⟨tb_at 1149 (by decide +kernel) rfl, tb_at 746 (by decide +kernel) rfl, tb_at 747 (by decide +kernel) rfl, tb_at 3 (by decide +kernel) rfl, tb_at 748 (by decide +kernel) rfl, ⟨by decide +kernel, by decide +kernel, by decide +kernel⟩, by decide⟩
theorem mwX3_25 : zMv RX3 25 mX3_addByte 1 := ⟨tb_at 1150 (by decide +kernel) rfl, tb_at 1152 (by decide +kernel) rfl, tb_pv (q := (yX3_addByte, 2)) (List.mem_of_getElem? (i := 48) (by decide +kernel)), tb_at 10 (by decide +kernel) rfl, tb_at 1153 (by decide +kernel) rfl, ⟨by decide +kernel, by decide +kernel, by decide +kernel⟩, by decide⟩
theorem mwX3_34 : zMv RX3 34 mX7_breathOf 1 := ⟨tb_at 1154 (by decide +kernel) rfl, tb_at 786 (by decide +kernel) rfl, tb_at 787 (by decide +kernel) rfl, tb_at 3 (by decide +kernel) rfl, tb_at 788 (by decide +kernel) rfl, ⟨by decide +kernel, by decide +kernel, by decide +kernel⟩, by decide⟩
theorem mwX3_38 : zMv RX3 38 mX7_givesOf 1 := ⟨tb_at 1155 (by decide +kernel) rfl, tb_at 790 (by decide +kernel) rfl, tb_at 791 (by decide +kernel) rfl, tb_at 3 (by decide +kernel) rfl, tb_at 792 (by decide +kernel) rfl, ⟨by decide +kernel, by decide +kernel, by decide +kernel⟩, by decide⟩
theorem mwX3_41 : zMv RX3 41 mX7_scoreOf 1 := ⟨tb_at 1156 (by decide +kernel) rfl, tb_at 798 (by decide +kernel) rfl, tb_at 799 (by decide +kernel) rfl, tb_at 3 (by decide +kernel) rfl, tb_at 800 (by decide +kernel) rfl, ⟨by decide +kernel, by decide +kernel, by decide +kernel⟩, by decide⟩
theorem mwX3_48 : zMv RX3 48 mX7_thinksOf 2 := ⟨tb_at 1158 (by decide +kernel) rfl, tb_at 782 (by decide +kernel) rfl, tb_at 783 (by decide +kernel) rfl, tb_at 3 (by decide +kernel) rfl, tb_at 784 (by decide +kernel) rfl, ⟨by decide +kernel, by decide +kernel, by decide +kernel⟩, by decide⟩
theorem mwX3_52 : zMs RX3 52 mX3_withChecked 2 := ⟨tb_at 1159 (by decide +kernel) rfl, tb_at 1160 (by decide +kernel) rfl, tb_at 10 (by decide +kernel) rfl, tb_at 1161 (by decide +kernel) rfl, ⟨by decide +kernel, by decide +kernel, by decide +kernel⟩, by decide⟩
theorem mwX3_55 : zMs RX3 55 mX3_holderSize 1 := ⟨tb_at 1173 (by decide +kernel) rfl, tb_at 1174 (by decide +kernel) rfl, tb_at 10 (by decide +kernel) rfl, tb_at 1175 (by decide +kernel) rfl, ⟨by decide +kernel, by decide +kernel, by decide +kernel⟩, by decide⟩
theorem mwX3_62 : zMv RX3 62 mX9_byteAt 1 := ⟨tb_at 1176 (by decide +kernel) rfl, tb_at 485 (by decide +kernel) rfl, tb_at 486 (by decide +kernel) rfl, tb_at 2 (by decide +kernel) rfl, tb_at 487 (by decide +kernel) rfl, ⟨by decide +kernel, by decide +kernel, by decide +kernel⟩, by decide⟩
theorem mwX3_65 : zMv RX3 65 mX6_hasTunnel 1 := ⟨tb_at 1177 (by decide +kernel) rfl, tb_at 651 (by decide +kernel) rfl, tb_at 652 (by decide +kernel) rfl, tb_at 6 (by decide +kernel) rfl, tb_at 653 (by decide +kernel) rfl, ⟨by decide +kernel, by decide +kernel, by decide +kernel⟩, by decide⟩
theorem mwX3_69 : zMs RX3 69 mX3_isHolderAt 3 := ⟨tb_at 1178 (by decide +kernel) rfl, tb_at 1179 (by decide +kernel) rfl, tb_at 10 (by decide +kernel) rfl, tb_at 1180 (by decide +kernel) rfl, ⟨by decide +kernel, by decide +kernel, by decide +kernel⟩, by decide⟩
theorem mwX3_73 : zMt RX3 73 mX10_isSecond 1 := ⟨⟨"BreathRoad", List.mem_of_getElem? (i := 10) rfl⟩, tb_at 1026 (by decide +kernel) rfl, tb_at 1 (by decide +kernel) rfl, tb_at 1027 (by decide +kernel) rfl, ⟨by decide +kernel, by decide +kernel, by decide +kernel⟩, by decide⟩
theorem mwX3_76 : zMs RX3 76 mX3_scoreAt 2 := ⟨tb_at 1182 (by decide +kernel) rfl, tb_at 1183 (by decide +kernel) rfl, tb_at 10 (by decide +kernel) rfl, tb_at 1184 (by decide +kernel) rfl, ⟨by decide +kernel, by decide +kernel, by decide +kernel⟩, by decide⟩
theorem mwX3_82 : zMv RX3 82 mX7_keepNothing 0 := ⟨tb_at 1190 (by decide +kernel) rfl, tb_at 1191 (by decide +kernel) rfl, tb_at 1192 (by decide +kernel) rfl, tb_at 3 (by decide +kernel) rfl, tb_at 1193 (by decide +kernel) rfl, ⟨by decide +kernel, by decide +kernel, by decide +kernel⟩, by decide⟩
theorem mwX3_85 : zMv RX3 85 mX7_setNextTunnel 1 := ⟨tb_at 1194 (by decide +kernel) rfl, tb_at 1096 (by decide +kernel) rfl, tb_at 1097 (by decide +kernel) rfl, tb_at 3 (by decide +kernel) rfl, tb_at 1098 (by decide +kernel) rfl, ⟨by decide +kernel, by decide +kernel, by decide +kernel⟩, by decide⟩
theorem mwX3_88 : zMv RX3 88 mX7_setBreath 2 := ⟨tb_at 1195 (by decide +kernel) rfl, tb_at 1088 (by decide +kernel) rfl, tb_at 1089 (by decide +kernel) rfl, tb_at 3 (by decide +kernel) rfl, tb_at 1090 (by decide +kernel) rfl, ⟨by decide +kernel, by decide +kernel, by decide +kernel⟩, by decide⟩
theorem mwX3_92 : zMv RX3 92 mX7_setGives 2 := ⟨tb_at 1196 (by decide +kernel) rfl, tb_at 1117 (by decide +kernel) rfl, tb_at 1118 (by decide +kernel) rfl, tb_at 3 (by decide +kernel) rfl, tb_at 1119 (by decide +kernel) rfl, ⟨by decide +kernel, by decide +kernel, by decide +kernel⟩, by decide⟩
theorem mwX3_95 : zMv RX3 95 mX7_setScore 2 := ⟨tb_at 1197 (by decide +kernel) rfl, tb_at 1198 (by decide +kernel) rfl, tb_at 1199 (by decide +kernel) rfl, tb_at 3 (by decide +kernel) rfl, tb_at 1200 (by decide +kernel) rfl, ⟨by decide +kernel, by decide +kernel, by decide +kernel⟩, by decide⟩
theorem mwX3_98 : zMv RX3 98 mX7_setThinks 3 := ⟨tb_at 1201 (by decide +kernel) rfl, tb_at 1109 (by decide +kernel) rfl, tb_at 1110 (by decide +kernel) rfl, tb_at 3 (by decide +kernel) rfl, tb_at 1111 (by decide +kernel) rfl, ⟨by decide +kernel, by decide +kernel, by decide +kernel⟩, by decide⟩
theorem moX4_3 : Cond.methodLink RX4 3 Lib.objectInit ∈ TB ∧ Cond.instanceMethod Lib.objectInit ∈ TB ∧ Cond.code Lib.objectInit ⟨#[0xb1]⟩ 1 none ∈ TB := ⟨tb_at 205 (by decide +kernel) rfl, tb_at 28 (by decide +kernel) rfl, tb_at 29 (by decide +kernel) rfl⟩
theorem mwX4_26 : zMv RX4 26 mX7_breathOf 1 := ⟨tb_at 825 (by decide +kernel) rfl, tb_at 786 (by decide +kernel) rfl, tb_at 787 (by decide +kernel) rfl, tb_at 3 (by decide +kernel) rfl, tb_at 788 (by decide +kernel) rfl, ⟨by decide +kernel, by decide +kernel, by decide +kernel⟩, by decide⟩
theorem mwX4_32 : zMv RX4 32 mX7_givesOf 1 := ⟨tb_at 826 (by decide +kernel) rfl, tb_at 790 (by decide +kernel) rfl, tb_at 791 (by decide +kernel) rfl, tb_at 3 (by decide +kernel) rfl, tb_at 792 (by decide +kernel) rfl, ⟨by decide +kernel, by decide +kernel, by decide +kernel⟩, by decide⟩
theorem mwX4_35 : zMs RX4 35 mJ9_min_7cf53 2 := ⟨tb_at 827 (by decide +kernel) rfl, tb_at 533 (by decide +kernel) rfl, tb_at 18 (by decide +kernel) rfl, tb_at 534 (by decide +kernel) rfl, ⟨by decide +kernel, by decide +kernel, by decide +kernel⟩, by decide⟩
theorem mwX4_41 : zMv RX4 41 mX7_thinksOf 2 := ⟨tb_at 828 (by decide +kernel) rfl, tb_at 782 (by decide +kernel) rfl, tb_at 783 (by decide +kernel) rfl, tb_at 3 (by decide +kernel) rfl, tb_at 784 (by decide +kernel) rfl, ⟨by decide +kernel, by decide +kernel, by decide +kernel⟩, by decide⟩
theorem mwX4_50 : zMv RX4 50 mX4_secondsHeld 3 := ⟨tb_at 841 (by decide +kernel) rfl, tb_at 822 (by decide +kernel) rfl, tb_at 823 (by decide +kernel) rfl, tb_at 5 (by decide +kernel) rfl, tb_at 824 (by decide +kernel) rfl, ⟨by decide +kernel, by decide +kernel, by decide +kernel⟩, by decide⟩
theorem mwX4_54 : zMv RX4 54 mX4_tellAlone 4 := ⟨tb_at 850 (by decide +kernel) rfl, tb_at 852 (by decide +kernel) rfl, tb_pv (q := (yX4_tellAlone, 4)) (List.mem_of_getElem? (i := 33) (by decide +kernel)), tb_at 5 (by decide +kernel) rfl, tb_at 853 (by decide +kernel) rfl, ⟨by decide +kernel, by decide +kernel, by decide +kernel⟩, by decide⟩
theorem mwX4_64 : zMv RX4 64 mX8_valueOf 2 := ⟨tb_at 854 (by decide +kernel) rfl, tb_at 855 (by decide +kernel) rfl, tb_at 856 (by decide +kernel) rfl, tb_at 7 (by decide +kernel) rfl, tb_at 857 (by decide +kernel) rfl, ⟨by decide +kernel, by decide +kernel, by decide +kernel⟩, by decide⟩
theorem mwX4_68 : zMt RX4 68 mX10_within 3 := ⟨⟨"BreathRoad", List.mem_of_getElem? (i := 7) rfl⟩, tb_at 889 (by decide +kernel) rfl, tb_at 1 (by decide +kernel) rfl, tb_at 890 (by decide +kernel) rfl, ⟨by decide +kernel, by decide +kernel, by decide +kernel⟩, by decide⟩
theorem mwX4_71 : zMv RX4 71 mX4_tellAmong 3 := ⟨tb_at 846 (by decide +kernel) rfl, tb_at 848 (by decide +kernel) rfl, tb_pv (q := (yX4_tellAmong, 4)) (List.mem_of_getElem? (i := 32) (by decide +kernel)), tb_at 5 (by decide +kernel) rfl, tb_at 849 (by decide +kernel) rfl, ⟨by decide +kernel, by decide +kernel, by decide +kernel⟩, by decide⟩
theorem mwX4_75 : zMv RX4 75 mX8_isTold 1 := ⟨tb_at 901 (by decide +kernel) rfl, tb_at 664 (by decide +kernel) rfl, tb_at 665 (by decide +kernel) rfl, tb_at 7 (by decide +kernel) rfl, tb_at 666 (by decide +kernel) rfl, ⟨by decide +kernel, by decide +kernel, by decide +kernel⟩, by decide⟩
theorem moX5_3 : Cond.methodLink RX5 3 Lib.objectInit ∈ TB ∧ Cond.instanceMethod Lib.objectInit ∈ TB ∧ Cond.code Lib.objectInit ⟨#[0xb1]⟩ 1 none ∈ TB := ⟨tb_at 317 (by decide +kernel) rfl, tb_at 28 (by decide +kernel) rfl, tb_at 29 (by decide +kernel) rfl⟩
theorem mwX5_50 : zMv RX5 50 mJ0_length_8abf5 0 := ⟨tb_at 319 (by decide +kernel) rfl, tb_at 320 (by decide +kernel) rfl, tb_at 321 (by decide +kernel) rfl, tb_at 12 (by decide +kernel) rfl, tb_at 322 (by decide +kernel) rfl, ⟨by decide +kernel, by decide +kernel, by decide +kernel⟩, by decide⟩
theorem mwX5_56 : zMv RX5 56 mJ0_charAt_5068e 1 := ⟨tb_at 329 (by decide +kernel) rfl, tb_at 330 (by decide +kernel) rfl, tb_at 331 (by decide +kernel) rfl, tb_at 12 (by decide +kernel) rfl, tb_at 332 (by decide +kernel) rfl, ⟨by decide +kernel, by decide +kernel, by decide +kernel⟩, by decide⟩
theorem mwX5_60 : zMs RX5 60 mX5_withLetter 3 := ⟨tb_at 367 (by decide +kernel) rfl, tb_at 368 (by decide +kernel) rfl, tb_at 11 (by decide +kernel) rfl, tb_at 369 (by decide +kernel) rfl, ⟨by decide +kernel, by decide +kernel, by decide +kernel⟩, by decide⟩
theorem mwX5_64 : zMv RX5 64 mX6_clear 0 := ⟨tb_at 464 (by decide +kernel) rfl, tb_at 465 (by decide +kernel) rfl, tb_at 466 (by decide +kernel) rfl, tb_at 6 (by decide +kernel) rfl, tb_at 467 (by decide +kernel) rfl, ⟨by decide +kernel, by decide +kernel, by decide +kernel⟩, by decide⟩
theorem mwX5_69 : zMv RX5 69 mX5_advance 0 := ⟨tb_at 476 (by decide +kernel) rfl, tb_at 478 (by decide +kernel) rfl, tb_pv (q := (yX5_advance, 11)) (List.mem_of_getElem? (i := 1) (by decide +kernel)), tb_at 11 (by decide +kernel) rfl, tb_at 479 (by decide +kernel) rfl, ⟨by decide +kernel, by decide +kernel, by decide +kernel⟩, by decide⟩
theorem mwX5_72 : zMv RX5 72 mX5_skipBlanks 0 := ⟨tb_at 480 (by decide +kernel) rfl, tb_at 482 (by decide +kernel) rfl, tb_pv (q := (yX5_skipBlanks, 11)) (List.mem_of_getElem? (i := 2) (by decide +kernel)), tb_at 11 (by decide +kernel) rfl, tb_at 483 (by decide +kernel) rfl, ⟨by decide +kernel, by decide +kernel, by decide +kernel⟩, by decide⟩
theorem mwX5_80 : zMv RX5 80 mX9_byteAt 1 := ⟨tb_at 484 (by decide +kernel) rfl, tb_at 485 (by decide +kernel) rfl, tb_at 486 (by decide +kernel) rfl, tb_at 2 (by decide +kernel) rfl, tb_at 487 (by decide +kernel) rfl, ⟨by decide +kernel, by decide +kernel, by decide +kernel⟩, by decide⟩
theorem mwX5_84 : zMs RX5 84 mX5_isLetter 1 := ⟨tb_at 488 (by decide +kernel) rfl, tb_at 489 (by decide +kernel) rfl, tb_at 11 (by decide +kernel) rfl, tb_at 490 (by decide +kernel) rfl, ⟨by decide +kernel, by decide +kernel, by decide +kernel⟩, by decide⟩
theorem mwX5_88 : zMv RX5 88 mX5_scanWord 0 := ⟨tb_at 491 (by decide +kernel) rfl, tb_at 493 (by decide +kernel) rfl, tb_pv (q := (yX5_scanWord, 11)) (List.mem_of_getElem? (i := 3) (by decide +kernel)), tb_at 11 (by decide +kernel) rfl, tb_at 494 (by decide +kernel) rfl, ⟨by decide +kernel, by decide +kernel, by decide +kernel⟩, by decide⟩
theorem mwX5_91 : zMs RX5 91 mX5_isDigit 1 := ⟨tb_at 502 (by decide +kernel) rfl, tb_at 503 (by decide +kernel) rfl, tb_at 11 (by decide +kernel) rfl, tb_at 504 (by decide +kernel) rfl, ⟨by decide +kernel, by decide +kernel, by decide +kernel⟩, by decide⟩
theorem mwX5_94 : zMv RX5 94 mX5_scanNumber 0 := ⟨tb_at 505 (by decide +kernel) rfl, tb_at 507 (by decide +kernel) rfl, tb_pv (q := (yX5_scanNumber, 11)) (List.mem_of_getElem? (i := 5) (by decide +kernel)), tb_at 11 (by decide +kernel) rfl, tb_at 508 (by decide +kernel) rfl, ⟨by decide +kernel, by decide +kernel, by decide +kernel⟩, by decide⟩
theorem mwX5_97 : zMv RX5 97 mX5_scanSign 0 := ⟨tb_at 509 (by decide +kernel) rfl, tb_at 511 (by decide +kernel) rfl, tb_pv (q := (yX5_scanSign, 11)) (List.mem_of_getElem? (i := 6) (by decide +kernel)), tb_at 11 (by decide +kernel) rfl, tb_at 512 (by decide +kernel) rfl, ⟨by decide +kernel, by decide +kernel, by decide +kernel⟩, by decide⟩
theorem mwX5_100 : zMv RX5 100 mX5_fail 2 := ⟨tb_at 495 (by decide +kernel) rfl, tb_at 497 (by decide +kernel) rfl, tb_pv (q := (yX5_fail, 11)) (List.mem_of_getElem? (i := 4) (by decide +kernel)), tb_at 11 (by decide +kernel) rfl, tb_at 498 (by decide +kernel) rfl, ⟨by decide +kernel, by decide +kernel, by decide +kernel⟩, by decide⟩
theorem mwX5_104 : zMs RX5 104 mX6_find 3 := ⟨tb_at 499 (by decide +kernel) rfl, tb_at 500 (by decide +kernel) rfl, tb_at 6 (by decide +kernel) rfl, tb_at 501 (by decide +kernel) rfl, ⟨by decide +kernel, by decide +kernel, by decide +kernel⟩, by decide⟩
theorem mwX5_110 : zMv RX5 110 mJ0_indexOf_0f7a4 1 := ⟨tb_at 514 (by decide +kernel) rfl, tb_at 515 (by decide +kernel) rfl, tb_at 516 (by decide +kernel) rfl, tb_at 12 (by decide +kernel) rfl, tb_at 517 (by decide +kernel) rfl, ⟨by decide +kernel, by decide +kernel, by decide +kernel⟩, by decide⟩
theorem mwX5_113 : zMv RX5 113 mX5_isName 0 := ⟨tb_at 589 (by decide +kernel) rfl, tb_at 591 (by decide +kernel) rfl, tb_pv (q := (yX5_isName, 11)) (List.mem_of_getElem? (i := 9) (by decide +kernel)), tb_at 11 (by decide +kernel) rfl, tb_at 592 (by decide +kernel) rfl, ⟨by decide +kernel, by decide +kernel, by decide +kernel⟩, by decide⟩
theorem mwX5_117 : zMv RX5 117 mX6_tunnelNamed 1 := ⟨tb_at 593 (by decide +kernel) rfl, tb_at 594 (by decide +kernel) rfl, tb_at 595 (by decide +kernel) rfl, tb_at 6 (by decide +kernel) rfl, tb_at 596 (by decide +kernel) rfl, ⟨by decide +kernel, by decide +kernel, by decide +kernel⟩, by decide⟩
theorem mwX5_120 : zMv RX5 120 mX6_holderNamed 1 := ⟨tb_at 598 (by decide +kernel) rfl, tb_at 599 (by decide +kernel) rfl, tb_at 600 (by decide +kernel) rfl, tb_at 6 (by decide +kernel) rfl, tb_at 601 (by decide +kernel) rfl, ⟨by decide +kernel, by decide +kernel, by decide +kernel⟩, by decide⟩
theorem mwX5_123 : zMv RX5 123 mX5_takeKnownName 1 := ⟨tb_at 634 (by decide +kernel) rfl, tb_at 636 (by decide +kernel) rfl, tb_pv (q := (yX5_takeKnownName, 11)) (List.mem_of_getElem? (i := 16) (by decide +kernel)), tb_at 11 (by decide +kernel) rfl, tb_at 637 (by decide +kernel) rfl, ⟨by decide +kernel, by decide +kernel, by decide +kernel⟩, by decide⟩
theorem mwX5_130 : zMv RX5 130 mX5_readTunnel 0 := ⟨tb_at 581 (by decide +kernel) rfl, tb_at 583 (by decide +kernel) rfl, tb_pv (q := (yX5_readTunnel, 11)) (List.mem_of_getElem? (i := 7) (by decide +kernel)), tb_at 11 (by decide +kernel) rfl, tb_at 584 (by decide +kernel) rfl, ⟨by decide +kernel, by decide +kernel, by decide +kernel⟩, by decide⟩
theorem mwX5_133 : zMv RX5 133 mX5_readHolder 0 := ⟨tb_at 622 (by decide +kernel) rfl, tb_at 624 (by decide +kernel) rfl, tb_pv (q := (yX5_readHolder, 11)) (List.mem_of_getElem? (i := 13) (by decide +kernel)), tb_at 11 (by decide +kernel) rfl, tb_at 625 (by decide +kernel) rfl, ⟨by decide +kernel, by decide +kernel, by decide +kernel⟩, by decide⟩
theorem mwX5_136 : zMv RX5 136 mX5_readThinks 0 := ⟨tb_at 626 (by decide +kernel) rfl, tb_at 628 (by decide +kernel) rfl, tb_pv (q := (yX5_readThinks, 11)) (List.mem_of_getElem? (i := 14) (by decide +kernel)), tb_at 11 (by decide +kernel) rfl, tb_at 629 (by decide +kernel) rfl, ⟨by decide +kernel, by decide +kernel, by decide +kernel⟩, by decide⟩
theorem mwX5_139 : zMv RX5 139 mX5_readGives 0 := ⟨tb_at 654 (by decide +kernel) rfl, tb_at 656 (by decide +kernel) rfl, tb_pv (q := (yX5_readGives, 11)) (List.mem_of_getElem? (i := 18) (by decide +kernel)), tb_at 11 (by decide +kernel) rfl, tb_at 657 (by decide +kernel) rfl, ⟨by decide +kernel, by decide +kernel, by decide +kernel⟩, by decide⟩
theorem mwX5_144 : zMv RX5 144 mX5_readTold 1 := ⟨tb_at 659 (by decide +kernel) rfl, tb_at 661 (by decide +kernel) rfl, tb_pv (q := (yX5_readTold, 11)) (List.mem_of_getElem? (i := 19) (by decide +kernel)), tb_at 11 (by decide +kernel) rfl, tb_at 662 (by decide +kernel) rfl, ⟨by decide +kernel, by decide +kernel, by decide +kernel⟩, by decide⟩
theorem mwX5_147 : zMv RX5 147 mX5_takeNumber 2 := ⟨tb_at 606 (by decide +kernel) rfl, tb_at 608 (by decide +kernel) rfl, tb_pv (q := (yX5_takeNumber, 11)) (List.mem_of_getElem? (i := 11) (by decide +kernel)), tb_at 11 (by decide +kernel) rfl, tb_at 609 (by decide +kernel) rfl, ⟨by decide +kernel, by decide +kernel, by decide +kernel⟩, by decide⟩
theorem mwX5_157 : zMv RX5 157 mX5_takeSign 1 := ⟨tb_at 690 (by decide +kernel) rfl, tb_at 692 (by decide +kernel) rfl, tb_pv (q := (yX5_takeSign, 11)) (List.mem_of_getElem? (i := 24) (by decide +kernel)), tb_at 11 (by decide +kernel) rfl, tb_at 693 (by decide +kernel) rfl, ⟨by decide +kernel, by decide +kernel, by decide +kernel⟩, by decide⟩
theorem mwX5_166 : zMv RX5 166 mX5_takeNewName 0 := ⟨tb_at 585 (by decide +kernel) rfl, tb_at 587 (by decide +kernel) rfl, tb_pv (q := (yX5_takeNewName, 11)) (List.mem_of_getElem? (i := 8) (by decide +kernel)), tb_at 11 (by decide +kernel) rfl, tb_at 588 (by decide +kernel) rfl, ⟨by decide +kernel, by decide +kernel, by decide +kernel⟩, by decide⟩
theorem mwX5_169 : zMv RX5 169 mX5_takeWord 1 := ⟨tb_at 602 (by decide +kernel) rfl, tb_at 604 (by decide +kernel) rfl, tb_pv (q := (yX5_takeWord, 11)) (List.mem_of_getElem? (i := 10) (by decide +kernel)), tb_at 11 (by decide +kernel) rfl, tb_at 605 (by decide +kernel) rfl, ⟨by decide +kernel, by decide +kernel, by decide +kernel⟩, by decide⟩
theorem mwX5_175 : zMv RX5 175 mX5_readLength 1 := ⟨tb_at 610 (by decide +kernel) rfl, tb_at 612 (by decide +kernel) rfl, tb_pv (q := (yX5_readLength, 11)) (List.mem_of_getElem? (i := 12) (by decide +kernel)), tb_at 11 (by decide +kernel) rfl, tb_at 613 (by decide +kernel) rfl, ⟨by decide +kernel, by decide +kernel, by decide +kernel⟩, by decide⟩
theorem mwX5_181 : zMv RX5 181 mX6_hasLength 2 := ⟨tb_at 614 (by decide +kernel) rfl, tb_at 615 (by decide +kernel) rfl, tb_at 616 (by decide +kernel) rfl, tb_at 6 (by decide +kernel) rfl, tb_at 617 (by decide +kernel) rfl, ⟨by decide +kernel, by decide +kernel, by decide +kernel⟩, by decide⟩
theorem mwX5_203 : zMv RX5 203 mX5_takeHolder 0 := ⟨tb_at 630 (by decide +kernel) rfl, tb_at 632 (by decide +kernel) rfl, tb_pv (q := (yX5_takeHolder, 11)) (List.mem_of_getElem? (i := 15) (by decide +kernel)), tb_at 11 (by decide +kernel) rfl, tb_at 633 (by decide +kernel) rfl, ⟨by decide +kernel, by decide +kernel, by decide +kernel⟩, by decide⟩
theorem mwX5_206 : zMv RX5 206 mX5_takeTunnel 0 := ⟨tb_at 638 (by decide +kernel) rfl, tb_at 640 (by decide +kernel) rfl, tb_pv (q := (yX5_takeTunnel, 11)) (List.mem_of_getElem? (i := 17) (by decide +kernel)), tb_at 11 (by decide +kernel) rfl, tb_at 641 (by decide +kernel) rfl, ⟨by decide +kernel, by decide +kernel, by decide +kernel⟩, by decide⟩
theorem mwX5_209 : zMv RX5 209 mX6_hasBoth 2 := ⟨tb_at 642 (by decide +kernel) rfl, tb_at 643 (by decide +kernel) rfl, tb_at 644 (by decide +kernel) rfl, tb_at 6 (by decide +kernel) rfl, tb_at 645 (by decide +kernel) rfl, ⟨by decide +kernel, by decide +kernel, by decide +kernel⟩, by decide⟩
theorem mwX5_215 : zMv RX5 215 mX6_hasHolder 1 := ⟨tb_at 658 (by decide +kernel) rfl, tb_at 647 (by decide +kernel) rfl, tb_at 648 (by decide +kernel) rfl, tb_at 6 (by decide +kernel) rfl, tb_at 649 (by decide +kernel) rfl, ⟨by decide +kernel, by decide +kernel, by decide +kernel⟩, by decide⟩
theorem mwX5_225 : zMv RX5 225 mX8_isTold 1 := ⟨tb_at 663 (by decide +kernel) rfl, tb_at 664 (by decide +kernel) rfl, tb_at 665 (by decide +kernel) rfl, tb_at 7 (by decide +kernel) rfl, tb_at 666 (by decide +kernel) rfl, ⟨by decide +kernel, by decide +kernel, by decide +kernel⟩, by decide⟩
theorem mwX5_232 : zMv RX5 232 mX5_readSum 1 := ⟨tb_at 667 (by decide +kernel) rfl, tb_at 669 (by decide +kernel) rfl, tb_pv (q := (yX5_readSum, 11)) (List.mem_of_getElem? (i := 20) (by decide +kernel)), tb_at 11 (by decide +kernel) rfl, tb_at 670 (by decide +kernel) rfl, ⟨by decide +kernel, by decide +kernel, by decide +kernel⟩, by decide⟩
theorem mwX5_238 : zMv RX5 238 mX5_readProduct 1 := ⟨tb_at 671 (by decide +kernel) rfl, tb_at 673 (by decide +kernel) rfl, tb_pv (q := (yX5_readProduct, 11)) (List.mem_of_getElem? (i := 21) (by decide +kernel)), tb_at 11 (by decide +kernel) rfl, tb_at 674 (by decide +kernel) rfl, ⟨by decide +kernel, by decide +kernel, by decide +kernel⟩, by decide⟩
theorem mwX5_241 : zMv RX5 241 mX8_add 2 := ⟨tb_at 679 (by decide +kernel) rfl, tb_at 680 (by decide +kernel) rfl, tb_at 681 (by decide +kernel) rfl, tb_at 7 (by decide +kernel) rfl, tb_at 682 (by decide +kernel) rfl, ⟨by decide +kernel, by decide +kernel, by decide +kernel⟩, by decide⟩
theorem mwX5_244 : zMv RX5 244 mX5_readPart 1 := ⟨tb_at 675 (by decide +kernel) rfl, tb_at 677 (by decide +kernel) rfl, tb_pv (q := (yX5_readPart, 11)) (List.mem_of_getElem? (i := 22) (by decide +kernel)), tb_at 11 (by decide +kernel) rfl, tb_at 678 (by decide +kernel) rfl, ⟨by decide +kernel, by decide +kernel, by decide +kernel⟩, by decide⟩
theorem mwX5_247 : zMs RX5 247 mX5_factOf 1 := ⟨tb_at 683 (by decide +kernel) rfl, tb_at 684 (by decide +kernel) rfl, tb_at 11 (by decide +kernel) rfl, tb_at 685 (by decide +kernel) rfl, ⟨by decide +kernel, by decide +kernel, by decide +kernel⟩, by decide⟩
theorem mwX5_250 : zMv RX5 250 mX5_isOpened 2 := ⟨tb_at 686 (by decide +kernel) rfl, tb_at 688 (by decide +kernel) rfl, tb_pv (q := (yX5_isOpened, 11)) (List.mem_of_getElem? (i := 23) (by decide +kernel)), tb_at 11 (by decide +kernel) rfl, tb_at 689 (by decide +kernel) rfl, ⟨by decide +kernel, by decide +kernel, by decide +kernel⟩, by decide⟩
theorem mwX5_253 : zMv RX5 253 mX5_readIf 1 := ⟨tb_at 694 (by decide +kernel) rfl, tb_at 696 (by decide +kernel) rfl, tb_pv (q := (yX5_readIf, 11)) (List.mem_of_getElem? (i := 25) (by decide +kernel)), tb_at 11 (by decide +kernel) rfl, tb_at 697 (by decide +kernel) rfl, ⟨by decide +kernel, by decide +kernel, by decide +kernel⟩, by decide⟩
theorem mwX5_256 : zMv RX5 256 mX5_readPair 2 := ⟨tb_at 722 (by decide +kernel) rfl, tb_at 724 (by decide +kernel) rfl, tb_pv (q := (yX5_readPair, 11)) (List.mem_of_getElem? (i := 31) (by decide +kernel)), tb_at 11 (by decide +kernel) rfl, tb_at 725 (by decide +kernel) rfl, ⟨by decide +kernel, by decide +kernel, by decide +kernel⟩, by decide⟩
theorem mwX5_259 : zMv RX5 259 mX5_readTest 1 := ⟨tb_at 698 (by decide +kernel) rfl, tb_at 700 (by decide +kernel) rfl, tb_pv (q := (yX5_readTest, 11)) (List.mem_of_getElem? (i := 26) (by decide +kernel)), tb_at 11 (by decide +kernel) rfl, tb_at 701 (by decide +kernel) rfl, ⟨by decide +kernel, by decide +kernel, by decide +kernel⟩, by decide⟩
theorem mwX5_262 : zMv RX5 262 mX8_landHere 1 := ⟨tb_at 718 (by decide +kernel) rfl, tb_at 719 (by decide +kernel) rfl, tb_at 720 (by decide +kernel) rfl, tb_at 7 (by decide +kernel) rfl, tb_at 721 (by decide +kernel) rfl, ⟨by decide +kernel, by decide +kernel, by decide +kernel⟩, by decide⟩
theorem mwX5_265 : zMv RX5 265 mX5_readBoth 1 := ⟨tb_at 702 (by decide +kernel) rfl, tb_at 704 (by decide +kernel) rfl, tb_pv (q := (yX5_readBoth, 11)) (List.mem_of_getElem? (i := 27) (by decide +kernel)), tb_at 11 (by decide +kernel) rfl, tb_at 705 (by decide +kernel) rfl, ⟨by decide +kernel, by decide +kernel, by decide +kernel⟩, by decide⟩
theorem mwX5_268 : zMv RX5 268 mX5_readFact 1 := ⟨tb_at 706 (by decide +kernel) rfl, tb_at 708 (by decide +kernel) rfl, tb_pv (q := (yX5_readFact, 11)) (List.mem_of_getElem? (i := 28) (by decide +kernel)), tb_at 11 (by decide +kernel) rfl, tb_at 709 (by decide +kernel) rfl, ⟨by decide +kernel, by decide +kernel, by decide +kernel⟩, by decide⟩
theorem mwX5_271 : zMv RX5 271 mX5_readNot 1 := ⟨tb_at 710 (by decide +kernel) rfl, tb_at 712 (by decide +kernel) rfl, tb_pv (q := (yX5_readNot, 11)) (List.mem_of_getElem? (i := 29) (by decide +kernel)), tb_at 11 (by decide +kernel) rfl, tb_at 713 (by decide +kernel) rfl, ⟨by decide +kernel, by decide +kernel, by decide +kernel⟩, by decide⟩
theorem mwX5_274 : zMv RX5 274 mX5_readCompared 1 := ⟨tb_at 714 (by decide +kernel) rfl, tb_at 716 (by decide +kernel) rfl, tb_pv (q := (yX5_readCompared, 11)) (List.mem_of_getElem? (i := 30) (by decide +kernel)), tb_at 11 (by decide +kernel) rfl, tb_at 717 (by decide +kernel) rfl, ⟨by decide +kernel, by decide +kernel, by decide +kernel⟩, by decide⟩
theorem moX6_3 : Cond.methodLink RX6 3 Lib.objectInit ∈ TB ∧ Cond.instanceMethod Lib.objectInit ∈ TB ∧ Cond.code Lib.objectInit ⟨#[0xb1]⟩ 1 none ∈ TB := ⟨tb_at 84 (by decide +kernel) rfl, tb_at 28 (by decide +kernel) rfl, tb_at 29 (by decide +kernel) rfl⟩
theorem miX6_60 : zMi RX6 60 mX8_init 0 := ⟨Or.inr ⟨"BreathRoad", List.mem_of_getElem? (i := 4) rfl⟩, rfl, rfl, tb_at 88 (by decide +kernel) rfl, tb_at 7 (by decide +kernel) rfl, tb_at 89 (by decide +kernel) rfl, ⟨by decide +kernel, by decide +kernel, by decide +kernel⟩, by decide⟩
theorem mwX6_65 : zMs RX6 65 mJ7_fill_53178 2 := ⟨tb_at 468 (by decide +kernel) rfl, tb_at 469 (by decide +kernel) rfl, tb_at 17 (by decide +kernel) rfl, tb_at 470 (by decide +kernel) rfl, ⟨by decide +kernel, by decide +kernel, by decide +kernel⟩, by decide⟩
theorem mwX6_71 : zMv RX6 71 mX8_clear 0 := ⟨tb_at 471 (by decide +kernel) rfl, tb_at 472 (by decide +kernel) rfl, tb_at 473 (by decide +kernel) rfl, tb_at 7 (by decide +kernel) rfl, tb_at 474 (by decide +kernel) rfl, ⟨by decide +kernel, by decide +kernel, by decide +kernel⟩, by decide⟩
theorem mwX6_74 : zMv RX6 74 mX6_hasHolder 1 := ⟨tb_at 646 (by decide +kernel) rfl, tb_at 647 (by decide +kernel) rfl, tb_at 648 (by decide +kernel) rfl, tb_at 6 (by decide +kernel) rfl, tb_at 649 (by decide +kernel) rfl, ⟨by decide +kernel, by decide +kernel, by decide +kernel⟩, by decide⟩
theorem mwX6_78 : zMv RX6 78 mX6_hasTunnel 1 := ⟨tb_at 650 (by decide +kernel) rfl, tb_at 651 (by decide +kernel) rfl, tb_at 652 (by decide +kernel) rfl, tb_at 6 (by decide +kernel) rfl, tb_at 653 (by decide +kernel) rfl, ⟨by decide +kernel, by decide +kernel, by decide +kernel⟩, by decide⟩
theorem mwX6_81 : zMv RX6 81 mX6_lengthAt 2 := ⟨tb_at 618 (by decide +kernel) rfl, tb_at 619 (by decide +kernel) rfl, tb_at 620 (by decide +kernel) rfl, tb_at 6 (by decide +kernel) rfl, tb_at 621 (by decide +kernel) rfl, ⟨by decide +kernel, by decide +kernel, by decide +kernel⟩, by decide⟩
theorem mwX6_85 : zMv RX6 85 mX6_weightAt 2 := ⟨tb_at 776 (by decide +kernel) rfl, tb_at 769 (by decide +kernel) rfl, tb_at 770 (by decide +kernel) rfl, tb_at 6 (by decide +kernel) rfl, tb_at 771 (by decide +kernel) rfl, ⟨by decide +kernel, by decide +kernel, by decide +kernel⟩, by decide⟩
theorem mwX6_88 : zMs RX6 88 mX6_find 3 := ⟨tb_at 597 (by decide +kernel) rfl, tb_at 500 (by decide +kernel) rfl, tb_at 6 (by decide +kernel) rfl, tb_at 501 (by decide +kernel) rfl, ⟨by decide +kernel, by decide +kernel, by decide +kernel⟩, by decide⟩
theorem moX7_5 : Cond.methodLink RX7 5 Lib.objectInit ∈ TB ∧ Cond.instanceMethod Lib.objectInit ∈ TB ∧ Cond.code Lib.objectInit ⟨#[0xb1]⟩ 1 none ∈ TB := ⟨tb_at 53 (by decide +kernel) rfl, tb_at 28 (by decide +kernel) rfl, tb_at 29 (by decide +kernel) rfl⟩
theorem mcX7_26 : Cond.methodLink RX7 26 arraycopyName ∈ TB ∧ Cond.native arraycopyName ∈ TB ∧ Cond.static arraycopyName ∈ TB ∧ Cond.initialized "java/lang/System" ∈ TB := ⟨tb_at 730 (by decide +kernel) rfl, tb_at 732 (by decide +kernel) rfl, tb_at 731 (by decide +kernel) rfl, tb_at 20 (by decide +kernel) rfl⟩
theorem mwX7_34 : zMt RX7 34 mX10_within 3 := ⟨⟨"BreathRoad", List.mem_of_getElem? (i := 9) rfl⟩, tb_at 889 (by decide +kernel) rfl, tb_at 1 (by decide +kernel) rfl, tb_at 890 (by decide +kernel) rfl, ⟨by decide +kernel, by decide +kernel, by decide +kernel⟩, by decide⟩
theorem mwX7_38 : zMs RX7 38 mJ9_min_7cf53 2 := ⟨tb_at 753 (by decide +kernel) rfl, tb_at 533 (by decide +kernel) rfl, tb_at 18 (by decide +kernel) rfl, tb_at 534 (by decide +kernel) rfl, ⟨by decide +kernel, by decide +kernel, by decide +kernel⟩, by decide⟩
theorem mwX7_44 : zMv RX7 44 mX7_keptCount 0 := ⟨tb_at 1140 (by decide +kernel) rfl, tb_at 750 (by decide +kernel) rfl, tb_at 751 (by decide +kernel) rfl, tb_at 3 (by decide +kernel) rfl, tb_at 752 (by decide +kernel) rfl, ⟨by decide +kernel, by decide +kernel, by decide +kernel⟩, by decide⟩
theorem moX8_3 : Cond.methodLink RX8 3 Lib.objectInit ∈ TB ∧ Cond.instanceMethod Lib.objectInit ∈ TB ∧ Cond.code Lib.objectInit ⟨#[0xb1]⟩ 1 none ∈ TB := ⟨tb_at 90 (by decide +kernel) rfl, tb_at 28 (by decide +kernel) rfl, tb_at 29 (by decide +kernel) rfl⟩
theorem mwX8_31 : zMs RX8 31 mJ7_fill_53178 2 := ⟨tb_at 475 (by decide +kernel) rfl, tb_at 469 (by decide +kernel) rfl, tb_at 17 (by decide +kernel) rfl, tb_at 470 (by decide +kernel) rfl, ⟨by decide +kernel, by decide +kernel, by decide +kernel⟩, by decide⟩
theorem mwX8_37 : zMv RX8 37 mX8_push 1 := ⟨tb_at 858 (by decide +kernel) rfl, tb_at 860 (by decide +kernel) rfl, tb_pv (q := (yX8_push, 6)) (List.mem_of_getElem? (i := 34) (by decide +kernel)), tb_at 7 (by decide +kernel) rfl, tb_at 861 (by decide +kernel) rfl, ⟨by decide +kernel, by decide +kernel, by decide +kernel⟩, by decide⟩
theorem mwX8_41 : zMv RX8 41 mX8_pop 0 := ⟨tb_at 862 (by decide +kernel) rfl, tb_at 864 (by decide +kernel) rfl, tb_pv (q := (yX8_pop, 6)) (List.mem_of_getElem? (i := 35) (by decide +kernel)), tb_at 7 (by decide +kernel) rfl, tb_at 865 (by decide +kernel) rfl, ⟨by decide +kernel, by decide +kernel, by decide +kernel⟩, by decide⟩
theorem mwX8_45 : zMs RX8 45 mJ9_max_7cf53 2 := ⟨tb_at 866 (by decide +kernel) rfl, tb_at 530 (by decide +kernel) rfl, tb_at 18 (by decide +kernel) rfl, tb_at 531 (by decide +kernel) rfl, ⟨by decide +kernel, by decide +kernel, by decide +kernel⟩, by decide⟩
theorem mwX8_51 : zMs RX8 51 mX8_joined 3 := ⟨tb_at 867 (by decide +kernel) rfl, tb_at 868 (by decide +kernel) rfl, tb_at 7 (by decide +kernel) rfl, tb_at 869 (by decide +kernel) rfl, ⟨by decide +kernel, by decide +kernel, by decide +kernel⟩, by decide⟩
theorem mwX8_55 : zMs RX8 55 mX8_bounded 1 := ⟨tb_at 877 (by decide +kernel) rfl, tb_at 878 (by decide +kernel) rfl, tb_at 7 (by decide +kernel) rfl, tb_at 879 (by decide +kernel) rfl, ⟨by decide +kernel, by decide +kernel, by decide +kernel⟩, by decide⟩
theorem mwX8_59 : zMs RX8 59 mJ9_floorDiv_7cf53 2 := ⟨tb_at 870 (by decide +kernel) rfl, tb_at 871 (by decide +kernel) rfl, tb_at 18 (by decide +kernel) rfl, tb_at 872 (by decide +kernel) rfl, ⟨by decide +kernel, by decide +kernel, by decide +kernel⟩, by decide⟩
theorem mwX8_62 : zMs RX8 62 mJ9_floorMod_7cf53 2 := ⟨tb_at 873 (by decide +kernel) rfl, tb_at 874 (by decide +kernel) rfl, tb_at 18 (by decide +kernel) rfl, tb_at 875 (by decide +kernel) rfl, ⟨by decide +kernel, by decide +kernel, by decide +kernel⟩, by decide⟩
theorem mwX8_65 : zMs RX8 65 mJ9_min_7cf53 2 := ⟨tb_at 876 (by decide +kernel) rfl, tb_at 533 (by decide +kernel) rfl, tb_at 18 (by decide +kernel) rfl, tb_at 534 (by decide +kernel) rfl, ⟨by decide +kernel, by decide +kernel, by decide +kernel⟩, by decide⟩
theorem mwX8_72 : zMs RX8 72 mJ9_min_f86c9 2 := ⟨tb_at 882 (by decide +kernel) rfl, tb_at 883 (by decide +kernel) rfl, tb_at 18 (by decide +kernel) rfl, tb_at 884 (by decide +kernel) rfl, ⟨by decide +kernel, by decide +kernel, by decide +kernel⟩, by decide⟩
theorem mwX8_75 : zMs RX8 75 mJ9_max_f86c9 2 := ⟨tb_at 885 (by decide +kernel) rfl, tb_at 886 (by decide +kernel) rfl, tb_at 18 (by decide +kernel) rfl, tb_at 887 (by decide +kernel) rfl, ⟨by decide +kernel, by decide +kernel, by decide +kernel⟩, by decide⟩
theorem moX9_3 : Cond.methodLink RX9 3 Lib.objectInit ∈ TB ∧ Cond.instanceMethod Lib.objectInit ∈ TB ∧ Cond.code Lib.objectInit ⟨#[0xb1]⟩ 1 none ∈ TB := ⟨tb_at 35 (by decide +kernel) rfl, tb_at 28 (by decide +kernel) rfl, tb_at 29 (by decide +kernel) rfl⟩
theorem miL_9 : zMi RL 9 mX10_init 0 := ⟨Or.inl (tb_at 24 (by decide +kernel) rfl), rfl, rfl, tb_at 25 (by decide +kernel) rfl, tb_at 1 (by decide +kernel) rfl, tb_at 26 (by decide +kernel) rfl, ⟨by decide +kernel, by decide +kernel, by decide +kernel⟩, by decide⟩
theorem miL_12 : zMi RL 12 mX11_init 0 := ⟨Or.inl (tb_at 1208 (by decide +kernel) rfl), rfl, rfl, tb_at 1209 (by decide +kernel) rfl, tb_at 16 (by decide +kernel) rfl, tb_at 1210 (by decide +kernel) rfl, ⟨by decide +kernel, by decide +kernel, by decide +kernel⟩, by decide⟩
theorem mwL_13 : zMv RL 13 mX10_feed 5 := ⟨tb_at 440 (by decide +kernel) rfl, tb_at 441 (by decide +kernel) rfl, tb_at 442 (by decide +kernel) rfl, tb_at 1 (by decide +kernel) rfl, tb_at 443 (by decide +kernel) rfl, ⟨by decide +kernel, by decide +kernel, by decide +kernel⟩, by decide⟩
theorem mwL_17 : zMv RL 17 mX11_feed 5 := ⟨tb_at 1451 (by decide +kernel) rfl, tb_at 1452 (by decide +kernel) rfl, tb_at 1453 (by decide +kernel) rfl, tb_at 16 (by decide +kernel) rfl, tb_at 1454 (by decide +kernel) rfl, ⟨by decide +kernel, by decide +kernel, by decide +kernel⟩, by decide⟩
theorem mwL_18 : zMv RL 18 mX10_end 1 := ⟨tb_at 452 (by decide +kernel) rfl, tb_at 453 (by decide +kernel) rfl, tb_at 454 (by decide +kernel) rfl, tb_at 1 (by decide +kernel) rfl, tb_at 455 (by decide +kernel) rfl, ⟨by decide +kernel, by decide +kernel, by decide +kernel⟩, by decide⟩
theorem mwL_22 : zMv RL 22 mX11_end 1 := ⟨tb_at 1463 (by decide +kernel) rfl, tb_at 1464 (by decide +kernel) rfl, tb_at 1465 (by decide +kernel) rfl, tb_at 16 (by decide +kernel) rfl, tb_at 1466 (by decide +kernel) rfl, ⟨by decide +kernel, by decide +kernel, by decide +kernel⟩, by decide⟩
theorem mwL_23 : zMv RL 23 mX10_road 0 := ⟨tb_at 456 (by decide +kernel) rfl, tb_at 457 (by decide +kernel) rfl, tb_at 458 (by decide +kernel) rfl, tb_at 1 (by decide +kernel) rfl, tb_at 459 (by decide +kernel) rfl, ⟨by decide +kernel, by decide +kernel, by decide +kernel⟩, by decide⟩
theorem mwL_27 : zMv RL 27 mX11_road 0 := ⟨tb_at 1467 (by decide +kernel) rfl, tb_at 1468 (by decide +kernel) rfl, tb_at 1469 (by decide +kernel) rfl, tb_at 16 (by decide +kernel) rfl, tb_at 1470 (by decide +kernel) rfl, ⟨by decide +kernel, by decide +kernel, by decide +kernel⟩, by decide⟩
theorem mwL_28 : zMv RL 28 mX10_fault 1 := ⟨tb_at 737 (by decide +kernel) rfl, tb_at 738 (by decide +kernel) rfl, tb_at 739 (by decide +kernel) rfl, tb_at 1 (by decide +kernel) rfl, tb_at 740 (by decide +kernel) rfl, ⟨by decide +kernel, by decide +kernel, by decide +kernel⟩, by decide⟩
theorem mwL_32 : zMv RL 32 mX11_fault 1 := ⟨tb_at 1647 (by decide +kernel) rfl, tb_at 1648 (by decide +kernel) rfl, tb_at 1649 (by decide +kernel) rfl, tb_at 16 (by decide +kernel) rfl, tb_at 1650 (by decide +kernel) rfl, ⟨by decide +kernel, by decide +kernel, by decide +kernel⟩, by decide⟩
theorem mwL_33 : zMv RL 33 mX10_has 1 := ⟨tb_at 741 (by decide +kernel) rfl, tb_at 742 (by decide +kernel) rfl, tb_at 743 (by decide +kernel) rfl, tb_at 1 (by decide +kernel) rfl, tb_at 744 (by decide +kernel) rfl, ⟨by decide +kernel, by decide +kernel, by decide +kernel⟩, by decide⟩
theorem mwL_36 : zMv RL 36 mX11_has 1 := ⟨tb_at 1667 (by decide +kernel) rfl, tb_at 1668 (by decide +kernel) rfl, tb_at 1669 (by decide +kernel) rfl, tb_at 16 (by decide +kernel) rfl, tb_at 1670 (by decide +kernel) rfl, ⟨by decide +kernel, by decide +kernel, by decide +kernel⟩, by decide⟩
theorem mwL_37 : zMv RL 37 mX10_letter 3 := ⟨tb_at 754 (by decide +kernel) rfl, tb_at 755 (by decide +kernel) rfl, tb_at 756 (by decide +kernel) rfl, tb_at 1 (by decide +kernel) rfl, tb_at 757 (by decide +kernel) rfl, ⟨by decide +kernel, by decide +kernel, by decide +kernel⟩, by decide⟩
theorem mwL_41 : zMv RL 41 mX11_letter 3 := ⟨tb_at 1671 (by decide +kernel) rfl, tb_at 1672 (by decide +kernel) rfl, tb_at 1673 (by decide +kernel) rfl, tb_at 16 (by decide +kernel) rfl, tb_at 1674 (by decide +kernel) rfl, ⟨by decide +kernel, by decide +kernel, by decide +kernel⟩, by decide⟩
theorem mwL_42 : zMv RL 42 mX10_tunnel 2 := ⟨tb_at 763 (by decide +kernel) rfl, tb_at 764 (by decide +kernel) rfl, tb_at 765 (by decide +kernel) rfl, tb_at 1 (by decide +kernel) rfl, tb_at 766 (by decide +kernel) rfl, ⟨by decide +kernel, by decide +kernel, by decide +kernel⟩, by decide⟩
theorem mwL_46 : zMv RL 46 mX11_tunnel 2 := ⟨tb_at 1676 (by decide +kernel) rfl, tb_at 1677 (by decide +kernel) rfl, tb_at 1678 (by decide +kernel) rfl, tb_at 16 (by decide +kernel) rfl, tb_at 1679 (by decide +kernel) rfl, ⟨by decide +kernel, by decide +kernel, by decide +kernel⟩, by decide⟩
theorem mwL_47 : zMv RL 47 mX10_holder 2 := ⟨tb_at 777 (by decide +kernel) rfl, tb_at 778 (by decide +kernel) rfl, tb_at 779 (by decide +kernel) rfl, tb_at 1 (by decide +kernel) rfl, tb_at 780 (by decide +kernel) rfl, ⟨by decide +kernel, by decide +kernel, by decide +kernel⟩, by decide⟩
theorem mwL_50 : zMv RL 50 mX11_holder 2 := ⟨tb_at 1700 (by decide +kernel) rfl, tb_at 1701 (by decide +kernel) rfl, tb_at 1702 (by decide +kernel) rfl, tb_at 16 (by decide +kernel) rfl, tb_at 1703 (by decide +kernel) rfl, ⟨by decide +kernel, by decide +kernel, by decide +kernel⟩, by decide⟩
theorem mwL_51 : zMv RL 51 mX10_score 1 := ⟨tb_at 793 (by decide +kernel) rfl, tb_at 794 (by decide +kernel) rfl, tb_at 795 (by decide +kernel) rfl, tb_at 1 (by decide +kernel) rfl, tb_at 796 (by decide +kernel) rfl, ⟨by decide +kernel, by decide +kernel, by decide +kernel⟩, by decide⟩
theorem mwL_54 : zMv RL 54 mX11_score 1 := ⟨tb_at 1708 (by decide +kernel) rfl, tb_at 1709 (by decide +kernel) rfl, tb_at 1710 (by decide +kernel) rfl, tb_at 16 (by decide +kernel) rfl, tb_at 1711 (by decide +kernel) rfl, ⟨by decide +kernel, by decide +kernel, by decide +kernel⟩, by decide⟩
theorem mwL_55 : zMv RL 55 mX10_likely 2 := ⟨tb_at 802 (by decide +kernel) rfl, tb_at 803 (by decide +kernel) rfl, tb_at 804 (by decide +kernel) rfl, tb_at 1 (by decide +kernel) rfl, tb_at 805 (by decide +kernel) rfl, ⟨by decide +kernel, by decide +kernel, by decide +kernel⟩, by decide⟩
theorem mwL_58 : zMv RL 58 mX11_likely 2 := ⟨tb_at 1713 (by decide +kernel) rfl, tb_at 1714 (by decide +kernel) rfl, tb_at 1715 (by decide +kernel) rfl, tb_at 16 (by decide +kernel) rfl, tb_at 1716 (by decide +kernel) rfl, ⟨by decide +kernel, by decide +kernel, by decide +kernel⟩, by decide⟩
theorem mwL_59 : zMv RL 59 mX10_holds 3 := ⟨tb_at 813 (by decide +kernel) rfl, tb_at 814 (by decide +kernel) rfl, tb_at 815 (by decide +kernel) rfl, tb_at 1 (by decide +kernel) rfl, tb_at 816 (by decide +kernel) rfl, ⟨by decide +kernel, by decide +kernel, by decide +kernel⟩, by decide⟩
theorem mwL_62 : zMv RL 62 mX11_holds 3 := ⟨tb_at 1717 (by decide +kernel) rfl, tb_at 1718 (by decide +kernel) rfl, tb_at 1719 (by decide +kernel) rfl, tb_at 16 (by decide +kernel) rfl, tb_at 1720 (by decide +kernel) rfl, ⟨by decide +kernel, by decide +kernel, by decide +kernel⟩, by decide⟩
theorem mwL_63 : zMv RL 63 mX10_made 2 := ⟨tb_at 829 (by decide +kernel) rfl, tb_at 830 (by decide +kernel) rfl, tb_at 831 (by decide +kernel) rfl, tb_at 1 (by decide +kernel) rfl, tb_at 832 (by decide +kernel) rfl, ⟨by decide +kernel, by decide +kernel, by decide +kernel⟩, by decide⟩
theorem mwL_66 : zMv RL 66 mX11_made 2 := ⟨tb_at 1732 (by decide +kernel) rfl, tb_at 1733 (by decide +kernel) rfl, tb_at 1734 (by decide +kernel) rfl, tb_at 16 (by decide +kernel) rfl, tb_at 1735 (by decide +kernel) rfl, ⟨by decide +kernel, by decide +kernel, by decide +kernel⟩, by decide⟩
theorem mwL_67 : zMv RL 67 mX10_worth 3 := ⟨tb_at 833 (by decide +kernel) rfl, tb_at 834 (by decide +kernel) rfl, tb_at 835 (by decide +kernel) rfl, tb_at 1 (by decide +kernel) rfl, tb_at 836 (by decide +kernel) rfl, ⟨by decide +kernel, by decide +kernel, by decide +kernel⟩, by decide⟩
theorem mwL_70 : zMv RL 70 mX11_worth 3 := ⟨tb_at 1736 (by decide +kernel) rfl, tb_at 1737 (by decide +kernel) rfl, tb_at 1738 (by decide +kernel) rfl, tb_at 16 (by decide +kernel) rfl, tb_at 1739 (by decide +kernel) rfl, ⟨by decide +kernel, by decide +kernel, by decide +kernel⟩, by decide⟩
theorem mwL_71 : zMv RL 71 mX10_tired 4 := ⟨tb_at 893 (by decide +kernel) rfl, tb_at 894 (by decide +kernel) rfl, tb_at 895 (by decide +kernel) rfl, tb_at 1 (by decide +kernel) rfl, tb_at 896 (by decide +kernel) rfl, ⟨by decide +kernel, by decide +kernel, by decide +kernel⟩, by decide⟩
theorem mwL_75 : zMv RL 75 mX11_tired 4 := ⟨tb_at 1782 (by decide +kernel) rfl, tb_at 1783 (by decide +kernel) rfl, tb_at 1784 (by decide +kernel) rfl, tb_at 16 (by decide +kernel) rfl, tb_at 1785 (by decide +kernel) rfl, ⟨by decide +kernel, by decide +kernel, by decide +kernel⟩, by decide⟩
theorem mwL_76 : zMv RL 76 mX10_alone 3 := ⟨tb_at 902 (by decide +kernel) rfl, tb_at 903 (by decide +kernel) rfl, tb_at 904 (by decide +kernel) rfl, tb_at 1 (by decide +kernel) rfl, tb_at 905 (by decide +kernel) rfl, ⟨by decide +kernel, by decide +kernel, by decide +kernel⟩, by decide⟩
theorem mwL_79 : zMv RL 79 mX11_alone 3 := ⟨tb_at 1790 (by decide +kernel) rfl, tb_at 1791 (by decide +kernel) rfl, tb_at 1792 (by decide +kernel) rfl, tb_at 16 (by decide +kernel) rfl, tb_at 1793 (by decide +kernel) rfl, ⟨by decide +kernel, by decide +kernel, by decide +kernel⟩, by decide⟩
theorem mwL_80 : zMv RL 80 mX10_on 3 := ⟨tb_at 949 (by decide +kernel) rfl, tb_at 950 (by decide +kernel) rfl, tb_at 951 (by decide +kernel) rfl, tb_at 1 (by decide +kernel) rfl, tb_at 952 (by decide +kernel) rfl, ⟨by decide +kernel, by decide +kernel, by decide +kernel⟩, by decide⟩
theorem mwL_83 : zMv RL 83 mX11_on 3 := ⟨tb_at 1807 (by decide +kernel) rfl, tb_at 1808 (by decide +kernel) rfl, tb_at 1809 (by decide +kernel) rfl, tb_at 16 (by decide +kernel) rfl, tb_at 1810 (by decide +kernel) rfl, ⟨by decide +kernel, by decide +kernel, by decide +kernel⟩, by decide⟩
theorem mwL_84 : zMv RL 84 mX10_rest 2 := ⟨tb_at 953 (by decide +kernel) rfl, tb_at 954 (by decide +kernel) rfl, tb_at 955 (by decide +kernel) rfl, tb_at 1 (by decide +kernel) rfl, tb_at 956 (by decide +kernel) rfl, ⟨by decide +kernel, by decide +kernel, by decide +kernel⟩, by decide⟩
theorem mwL_87 : zMv RL 87 mX11_rest 2 := ⟨tb_at 1815 (by decide +kernel) rfl, tb_at 1816 (by decide +kernel) rfl, tb_at 1817 (by decide +kernel) rfl, tb_at 16 (by decide +kernel) rfl, tb_at 1818 (by decide +kernel) rfl, ⟨by decide +kernel, by decide +kernel, by decide +kernel⟩, by decide⟩
theorem mwL_88 : zMv RL 88 mX10_hidden 3 := ⟨tb_at 971 (by decide +kernel) rfl, tb_at 972 (by decide +kernel) rfl, tb_at 973 (by decide +kernel) rfl, tb_at 1 (by decide +kernel) rfl, tb_at 974 (by decide +kernel) rfl, ⟨by decide +kernel, by decide +kernel, by decide +kernel⟩, by decide⟩
theorem mwL_91 : zMv RL 91 mX11_hidden 3 := ⟨tb_at 1827 (by decide +kernel) rfl, tb_at 1828 (by decide +kernel) rfl, tb_at 1829 (by decide +kernel) rfl, tb_at 16 (by decide +kernel) rfl, tb_at 1830 (by decide +kernel) rfl, ⟨by decide +kernel, by decide +kernel, by decide +kernel⟩, by decide⟩
theorem mwL_92 : zMv RL 92 mX10_pace 3 := ⟨tb_at 981 (by decide +kernel) rfl, tb_at 982 (by decide +kernel) rfl, tb_at 983 (by decide +kernel) rfl, tb_at 1 (by decide +kernel) rfl, tb_at 984 (by decide +kernel) rfl, ⟨by decide +kernel, by decide +kernel, by decide +kernel⟩, by decide⟩
theorem mwL_95 : zMv RL 95 mX11_pace 3 := ⟨tb_at 1832 (by decide +kernel) rfl, tb_at 1833 (by decide +kernel) rfl, tb_at 1834 (by decide +kernel) rfl, tb_at 16 (by decide +kernel) rfl, tb_at 1835 (by decide +kernel) rfl, ⟨by decide +kernel, by decide +kernel, by decide +kernel⟩, by decide⟩
theorem mwL_96 : zMv RL 96 mX10_whom 3 := ⟨tb_at 999 (by decide +kernel) rfl, tb_at 1000 (by decide +kernel) rfl, tb_at 1001 (by decide +kernel) rfl, tb_at 1 (by decide +kernel) rfl, tb_at 1002 (by decide +kernel) rfl, ⟨by decide +kernel, by decide +kernel, by decide +kernel⟩, by decide⟩
theorem mwL_99 : zMv RL 99 mX11_whom 3 := ⟨tb_at 1840 (by decide +kernel) rfl, tb_at 1841 (by decide +kernel) rfl, tb_at 1842 (by decide +kernel) rfl, tb_at 16 (by decide +kernel) rfl, tb_at 1843 (by decide +kernel) rfl, ⟨by decide +kernel, by decide +kernel, by decide +kernel⟩, by decide⟩
theorem mwL_100 : zMv RL 100 mX10_faces 1 := ⟨tb_at 1014 (by decide +kernel) rfl, tb_at 1015 (by decide +kernel) rfl, tb_at 1016 (by decide +kernel) rfl, tb_at 1 (by decide +kernel) rfl, tb_at 1017 (by decide +kernel) rfl, ⟨by decide +kernel, by decide +kernel, by decide +kernel⟩, by decide⟩
theorem mwL_103 : zMv RL 103 mX11_faces 1 := ⟨tb_at 1844 (by decide +kernel) rfl, tb_at 1845 (by decide +kernel) rfl, tb_at 1846 (by decide +kernel) rfl, tb_at 16 (by decide +kernel) rfl, tb_at 1847 (by decide +kernel) rfl, ⟨by decide +kernel, by decide +kernel, by decide +kernel⟩, by decide⟩
theorem mwL_104 : zMv RL 104 mX10_fit 1 := ⟨tb_at 1028 (by decide +kernel) rfl, tb_at 1029 (by decide +kernel) rfl, tb_at 1030 (by decide +kernel) rfl, tb_at 1 (by decide +kernel) rfl, tb_at 1031 (by decide +kernel) rfl, ⟨by decide +kernel, by decide +kernel, by decide +kernel⟩, by decide⟩
theorem mwL_107 : zMv RL 107 mX11_fit 1 := ⟨tb_at 1848 (by decide +kernel) rfl, tb_at 1849 (by decide +kernel) rfl, tb_at 1850 (by decide +kernel) rfl, tb_at 16 (by decide +kernel) rfl, tb_at 1851 (by decide +kernel) rfl, ⟨by decide +kernel, by decide +kernel, by decide +kernel⟩, by decide⟩
theorem mwL_108 : zMv RL 108 mX10_drive 1 := ⟨tb_at 1043 (by decide +kernel) rfl, tb_at 1044 (by decide +kernel) rfl, tb_at 1045 (by decide +kernel) rfl, tb_at 1 (by decide +kernel) rfl, tb_at 1046 (by decide +kernel) rfl, ⟨by decide +kernel, by decide +kernel, by decide +kernel⟩, by decide⟩
theorem mwL_111 : zMv RL 111 mX11_drive 1 := ⟨tb_at 1856 (by decide +kernel) rfl, tb_at 1857 (by decide +kernel) rfl, tb_at 1858 (by decide +kernel) rfl, tb_at 16 (by decide +kernel) rfl, tb_at 1859 (by decide +kernel) rfl, ⟨by decide +kernel, by decide +kernel, by decide +kernel⟩, by decide⟩
theorem mwL_112 : zMv RL 112 mX10_pause 0 := ⟨tb_at 1099 (by decide +kernel) rfl, tb_at 1100 (by decide +kernel) rfl, tb_at 1101 (by decide +kernel) rfl, tb_at 1 (by decide +kernel) rfl, tb_at 1102 (by decide +kernel) rfl, ⟨by decide +kernel, by decide +kernel, by decide +kernel⟩, by decide⟩
theorem mwL_115 : zMv RL 115 mX11_pause 0 := ⟨tb_at 1886 (by decide +kernel) rfl, tb_at 1887 (by decide +kernel) rfl, tb_at 1888 (by decide +kernel) rfl, tb_at 16 (by decide +kernel) rfl, tb_at 1889 (by decide +kernel) rfl, ⟨by decide +kernel, by decide +kernel, by decide +kernel⟩, by decide⟩
theorem mwL_116 : zMv RL 116 mX10_believe 3 := ⟨tb_at 1103 (by decide +kernel) rfl, tb_at 1104 (by decide +kernel) rfl, tb_at 1105 (by decide +kernel) rfl, tb_at 1 (by decide +kernel) rfl, tb_at 1106 (by decide +kernel) rfl, ⟨by decide +kernel, by decide +kernel, by decide +kernel⟩, by decide⟩
theorem mwL_119 : zMv RL 119 mX11_believe 3 := ⟨tb_at 1890 (by decide +kernel) rfl, tb_at 1891 (by decide +kernel) rfl, tb_at 1892 (by decide +kernel) rfl, tb_at 16 (by decide +kernel) rfl, tb_at 1893 (by decide +kernel) rfl, ⟨by decide +kernel, by decide +kernel, by decide +kernel⟩, by decide⟩
theorem mwL_120 : zMv RL 120 mX10_give 2 := ⟨tb_at 1112 (by decide +kernel) rfl, tb_at 1113 (by decide +kernel) rfl, tb_at 1114 (by decide +kernel) rfl, tb_at 1 (by decide +kernel) rfl, tb_at 1115 (by decide +kernel) rfl, ⟨by decide +kernel, by decide +kernel, by decide +kernel⟩, by decide⟩
theorem mwL_123 : zMv RL 123 mX11_give 2 := ⟨tb_at 1894 (by decide +kernel) rfl, tb_at 1895 (by decide +kernel) rfl, tb_at 1896 (by decide +kernel) rfl, tb_at 16 (by decide +kernel) rfl, tb_at 1897 (by decide +kernel) rfl, ⟨by decide +kernel, by decide +kernel, by decide +kernel⟩, by decide⟩
theorem mwL_124 : zMv RL 124 mX10_undo 0 := ⟨tb_at 1120 (by decide +kernel) rfl, tb_at 1121 (by decide +kernel) rfl, tb_at 1122 (by decide +kernel) rfl, tb_at 1 (by decide +kernel) rfl, tb_at 1123 (by decide +kernel) rfl, ⟨by decide +kernel, by decide +kernel, by decide +kernel⟩, by decide⟩
theorem mwL_128 : zMv RL 128 mX11_undo 0 := ⟨tb_at 1655 (by decide +kernel) rfl, tb_at 1656 (by decide +kernel) rfl, tb_at 1657 (by decide +kernel) rfl, tb_at 16 (by decide +kernel) rfl, tb_at 1658 (by decide +kernel) rfl, ⟨by decide +kernel, by decide +kernel, by decide +kernel⟩, by decide⟩
theorem mwL_129 : zMv RL 129 mX10_seed 1 := ⟨tb_at 1128 (by decide +kernel) rfl, tb_at 1129 (by decide +kernel) rfl, tb_at 1130 (by decide +kernel) rfl, tb_at 1 (by decide +kernel) rfl, tb_at 1131 (by decide +kernel) rfl, ⟨by decide +kernel, by decide +kernel, by decide +kernel⟩, by decide⟩
theorem mwL_132 : zMv RL 132 mX11_seed 1 := ⟨tb_at 1898 (by decide +kernel) rfl, tb_at 1899 (by decide +kernel) rfl, tb_at 1900 (by decide +kernel) rfl, tb_at 16 (by decide +kernel) rfl, tb_at 1901 (by decide +kernel) rfl, ⟨by decide +kernel, by decide +kernel, by decide +kernel⟩, by decide⟩
theorem mwL_133 : zMv RL 133 mX10_kept 2 := ⟨tb_at 1132 (by decide +kernel) rfl, tb_at 1133 (by decide +kernel) rfl, tb_at 1134 (by decide +kernel) rfl, tb_at 1 (by decide +kernel) rfl, tb_at 1135 (by decide +kernel) rfl, ⟨by decide +kernel, by decide +kernel, by decide +kernel⟩, by decide⟩
theorem mwL_136 : zMv RL 136 mX11_kept 2 := ⟨tb_at 1902 (by decide +kernel) rfl, tb_at 1903 (by decide +kernel) rfl, tb_at 1904 (by decide +kernel) rfl, tb_at 16 (by decide +kernel) rfl, tb_at 1905 (by decide +kernel) rfl, ⟨by decide +kernel, by decide +kernel, by decide +kernel⟩, by decide⟩
theorem mwL_137 : zMv RL 137 mX10_image 0 := ⟨tb_at 1141 (by decide +kernel) rfl, tb_at 1142 (by decide +kernel) rfl, tb_at 1143 (by decide +kernel) rfl, tb_at 1 (by decide +kernel) rfl, tb_at 1144 (by decide +kernel) rfl, ⟨by decide +kernel, by decide +kernel, by decide +kernel⟩, by decide⟩
theorem mwL_140 : zMv RL 140 mX11_image 0 := ⟨tb_at 1906 (by decide +kernel) rfl, tb_at 1907 (by decide +kernel) rfl, tb_at 1908 (by decide +kernel) rfl, tb_at 16 (by decide +kernel) rfl, tb_at 1909 (by decide +kernel) rfl, ⟨by decide +kernel, by decide +kernel, by decide +kernel⟩, by decide⟩
theorem mwL_141 : zMv RL 141 mX10_octet 1 := ⟨tb_at 1162 (by decide +kernel) rfl, tb_at 1163 (by decide +kernel) rfl, tb_at 1164 (by decide +kernel) rfl, tb_at 1 (by decide +kernel) rfl, tb_at 1165 (by decide +kernel) rfl, ⟨by decide +kernel, by decide +kernel, by decide +kernel⟩, by decide⟩
theorem mwL_144 : zMv RL 144 mX11_octet 1 := ⟨tb_at 1915 (by decide +kernel) rfl, tb_at 1916 (by decide +kernel) rfl, tb_at 1917 (by decide +kernel) rfl, tb_at 16 (by decide +kernel) rfl, tb_at 1918 (by decide +kernel) rfl, ⟨by decide +kernel, by decide +kernel, by decide +kernel⟩, by decide⟩
theorem mwL_145 : zMv RL 145 mX10_goOn 0 := ⟨tb_at 1166 (by decide +kernel) rfl, tb_at 1167 (by decide +kernel) rfl, tb_at 1168 (by decide +kernel) rfl, tb_at 1 (by decide +kernel) rfl, tb_at 1169 (by decide +kernel) rfl, ⟨by decide +kernel, by decide +kernel, by decide +kernel⟩, by decide⟩
theorem mwL_148 : zMv RL 148 mX11_goOn 0 := ⟨tb_at 1919 (by decide +kernel) rfl, tb_at 1920 (by decide +kernel) rfl, tb_at 1921 (by decide +kernel) rfl, tb_at 16 (by decide +kernel) rfl, tb_at 1922 (by decide +kernel) rfl, ⟨by decide +kernel, by decide +kernel, by decide +kernel⟩, by decide⟩
theorem mwL_149 : zMv RL 149 mX10_status 1 := ⟨tb_at 1202 (by decide +kernel) rfl, tb_at 1203 (by decide +kernel) rfl, tb_at 1204 (by decide +kernel) rfl, tb_at 1 (by decide +kernel) rfl, tb_at 1205 (by decide +kernel) rfl, ⟨by decide +kernel, by decide +kernel, by decide +kernel⟩, by decide⟩
theorem mwL_152 : zMv RL 152 mX11_status 1 := ⟨tb_at 1651 (by decide +kernel) rfl, tb_at 1652 (by decide +kernel) rfl, tb_at 1653 (by decide +kernel) rfl, tb_at 16 (by decide +kernel) rfl, tb_at 1654 (by decide +kernel) rfl, ⟨by decide +kernel, by decide +kernel, by decide +kernel⟩, by decide⟩
theorem moX11_1 : Cond.methodLink RX11 1 Lib.objectInit ∈ TB ∧ Cond.instanceMethod Lib.objectInit ∈ TB ∧ Cond.code Lib.objectInit ⟨#[0xb1]⟩ 1 none ∈ TB := ⟨tb_at 1211 (by decide +kernel) rfl, tb_at 28 (by decide +kernel) rfl, tb_at 29 (by decide +kernel) rfl⟩
theorem mwX11_252 : zMv RX11 252 mX11_refuses 1 := ⟨tb_at 1455 (by decide +kernel) rfl, tb_at 1457 (by decide +kernel) rfl, tb_pv (q := (yX11_refuses, 79)) (List.mem_of_getElem? (i := 49) (by decide +kernel)), tb_at 16 (by decide +kernel) rfl, tb_at 1458 (by decide +kernel) rfl, ⟨by decide +kernel, by decide +kernel, by decide +kernel⟩, by decide⟩
theorem mwX11_256 : zMv RX11 256 mX11_put 1 := ⟨tb_at 1459 (by decide +kernel) rfl, tb_at 1461 (by decide +kernel) rfl, tb_pv (q := (yX11_put, 79)) (List.mem_of_getElem? (i := 50) (by decide +kernel)), tb_at 16 (by decide +kernel) rfl, tb_at 1462 (by decide +kernel) rfl, ⟨by decide +kernel, by decide +kernel, by decide +kernel⟩, by decide⟩
theorem mwX11_260 : zMv RX11 260 mX11_blame 2 := ⟨tb_at 1489 (by decide +kernel) rfl, tb_at 1491 (by decide +kernel) rfl, tb_pv (q := (yX11_blame, 79)) (List.mem_of_getElem? (i := 54) (by decide +kernel)), tb_at 16 (by decide +kernel) rfl, tb_at 1492 (by decide +kernel) rfl, ⟨by decide +kernel, by decide +kernel, by decide +kernel⟩, by decide⟩
theorem mwX11_264 : zMs RX11 264 mX11_isLetter 1 := ⟨tb_at 1475 (by decide +kernel) rfl, tb_at 1476 (by decide +kernel) rfl, tb_at 16 (by decide +kernel) rfl, tb_at 1477 (by decide +kernel) rfl, ⟨by decide +kernel, by decide +kernel, by decide +kernel⟩, by decide⟩
theorem mwX11_268 : zMs RX11 268 mX11_isDigit 1 := ⟨tb_at 1478 (by decide +kernel) rfl, tb_at 1479 (by decide +kernel) rfl, tb_at 16 (by decide +kernel) rfl, tb_at 1480 (by decide +kernel) rfl, ⟨by decide +kernel, by decide +kernel, by decide +kernel⟩, by decide⟩
theorem mwX11_271 : zMv RX11 271 mX11_lex 0 := ⟨tb_at 1485 (by decide +kernel) rfl, tb_at 1487 (by decide +kernel) rfl, tb_pv (q := (yX11_lex, 79)) (List.mem_of_getElem? (i := 53) (by decide +kernel)), tb_at 16 (by decide +kernel) rfl, tb_at 1488 (by decide +kernel) rfl, ⟨by decide +kernel, by decide +kernel, by decide +kernel⟩, by decide⟩
theorem mwX11_274 : zMv RX11 274 mX11_isSign 1 := ⟨tb_at 1604 (by decide +kernel) rfl, tb_at 1606 (by decide +kernel) rfl, tb_pv (q := (yX11_isSign, 79)) (List.mem_of_getElem? (i := 75) (by decide +kernel)), tb_at 16 (by decide +kernel) rfl, tb_at 1607 (by decide +kernel) rfl, ⟨by decide +kernel, by decide +kernel, by decide +kernel⟩, by decide⟩
theorem mwX11_277 : zMv RX11 277 mX11_ahead 0 := ⟨tb_at 1471 (by decide +kernel) rfl, tb_at 1473 (by decide +kernel) rfl, tb_pv (q := (yX11_ahead, 79)) (List.mem_of_getElem? (i := 51) (by decide +kernel)), tb_at 16 (by decide +kernel) rfl, tb_at 1474 (by decide +kernel) rfl, ⟨by decide +kernel, by decide +kernel, by decide +kernel⟩, by decide⟩
theorem mwX11_330 : zMv RX11 330 mX11_manyOf 2 := ⟨tb_at 1542 (by decide +kernel) rfl, tb_at 1544 (by decide +kernel) rfl, tb_pv (q := (yX11_manyOf, 79)) (List.mem_of_getElem? (i := 61) (by decide +kernel)), tb_at 16 (by decide +kernel) rfl, tb_at 1545 (by decide +kernel) rfl, ⟨by decide +kernel, by decide +kernel, by decide +kernel⟩, by decide⟩
theorem mwX11_334 : zMv RX11 334 mX11_nameOf 3 := ⟨tb_at 1546 (by decide +kernel) rfl, tb_at 1548 (by decide +kernel) rfl, tb_pv (q := (yX11_nameOf, 79)) (List.mem_of_getElem? (i := 62) (by decide +kernel)), tb_at 16 (by decide +kernel) rfl, tb_at 1549 (by decide +kernel) rfl, ⟨by decide +kernel, by decide +kernel, by decide +kernel⟩, by decide⟩
theorem mwX11_338 : zMs RX11 338 mX11_is 3 := ⟨tb_at 1562 (by decide +kernel) rfl, tb_at 1563 (by decide +kernel) rfl, tb_at 16 (by decide +kernel) rfl, tb_at 1564 (by decide +kernel) rfl, ⟨by decide +kernel, by decide +kernel, by decide +kernel⟩, by decide⟩
theorem mwX11_342 : zMv RX11 342 mX11_lookedAt 2 := ⟨tb_at 1558 (by decide +kernel) rfl, tb_at 1560 (by decide +kernel) rfl, tb_pv (q := (yX11_lookedAt, 79)) (List.mem_of_getElem? (i := 65) (by decide +kernel)), tb_at 16 (by decide +kernel) rfl, tb_at 1561 (by decide +kernel) rfl, ⟨by decide +kernel, by decide +kernel, by decide +kernel⟩, by decide⟩
theorem mwX11_345 : zMs RX11 345 mX11_rank 1 := ⟨tb_at 1624 (by decide +kernel) rfl, tb_at 1625 (by decide +kernel) rfl, tb_at 16 (by decide +kernel) rfl, tb_at 1626 (by decide +kernel) rfl, ⟨by decide +kernel, by decide +kernel, by decide +kernel⟩, by decide⟩
theorem mwX11_348 : zMv RX11 348 mX11_add 2 := ⟨tb_at 1612 (by decide +kernel) rfl, tb_at 1614 (by decide +kernel) rfl, tb_pv (q := (yX11_add, 79)) (List.mem_of_getElem? (i := 77) (by decide +kernel)), tb_at 16 (by decide +kernel) rfl, tb_at 1615 (by decide +kernel) rfl, ⟨by decide +kernel, by decide +kernel, by decide +kernel⟩, by decide⟩
theorem mwX11_351 : zMv RX11 351 mX11_pushes 1 := ⟨tb_at 1589 (by decide +kernel) rfl, tb_at 1591 (by decide +kernel) rfl, tb_pv (q := (yX11_pushes, 79)) (List.mem_of_getElem? (i := 72) (by decide +kernel)), tb_at 16 (by decide +kernel) rfl, tb_at 1592 (by decide +kernel) rfl, ⟨by decide +kernel, by decide +kernel, by decide +kernel⟩, by decide⟩
theorem mwX11_354 : zMs RX11 354 mX11_isTest 1 := ⟨tb_at 1597 (by decide +kernel) rfl, tb_at 1598 (by decide +kernel) rfl, tb_at 16 (by decide +kernel) rfl, tb_at 1599 (by decide +kernel) rfl, ⟨by decide +kernel, by decide +kernel, by decide +kernel⟩, by decide⟩
theorem mwX11_357 : zMv RX11 357 mX11_isWord 1 := ⟨tb_at 1494 (by decide +kernel) rfl, tb_at 1496 (by decide +kernel) rfl, tb_pv (q := (yX11_isWord, 79)) (List.mem_of_getElem? (i := 55) (by decide +kernel)), tb_at 16 (by decide +kernel) rfl, tb_at 1497 (by decide +kernel) rfl, ⟨by decide +kernel, by decide +kernel, by decide +kernel⟩, by decide⟩
theorem mwX11_361 : zMv RX11 361 mX11_holdsBack 1 := ⟨tb_at 1600 (by decide +kernel) rfl, tb_at 1602 (by decide +kernel) rfl, tb_pv (q := (yX11_holdsBack, 79)) (List.mem_of_getElem? (i := 74) (by decide +kernel)), tb_at 16 (by decide +kernel) rfl, tb_at 1603 (by decide +kernel) rfl, ⟨by decide +kernel, by decide +kernel, by decide +kernel⟩, by decide⟩
theorem mwX11_364 : zMv RX11 364 mX11_opens 1 := ⟨tb_at 1608 (by decide +kernel) rfl, tb_at 1610 (by decide +kernel) rfl, tb_pv (q := (yX11_opens, 79)) (List.mem_of_getElem? (i := 76) (by decide +kernel)), tb_at 16 (by decide +kernel) rfl, tb_at 1611 (by decide +kernel) rfl, ⟨by decide +kernel, by decide +kernel, by decide +kernel⟩, by decide⟩
theorem mwX11_367 : zMv RX11 367 mX11_joins 1 := ⟨tb_at 1620 (by decide +kernel) rfl, tb_at 1622 (by decide +kernel) rfl, tb_pv (q := (yX11_joins, 79)) (List.mem_of_getElem? (i := 79) (by decide +kernel)), tb_at 16 (by decide +kernel) rfl, tb_at 1623 (by decide +kernel) rfl, ⟨by decide +kernel, by decide +kernel, by decide +kernel⟩, by decide⟩
theorem mwX11_370 : zMv RX11 370 mX11_operand 0 := ⟨tb_at 1593 (by decide +kernel) rfl, tb_at 1595 (by decide +kernel) rfl, tb_pv (q := (yX11_operand, 79)) (List.mem_of_getElem? (i := 73) (by decide +kernel)), tb_at 16 (by decide +kernel) rfl, tb_at 1596 (by decide +kernel) rfl, ⟨by decide +kernel, by decide +kernel, by decide +kernel⟩, by decide⟩
theorem mwX11_373 : zMv RX11 373 mX11_goesOn 0 := ⟨tb_at 1616 (by decide +kernel) rfl, tb_at 1618 (by decide +kernel) rfl, tb_pv (q := (yX11_goesOn, 79)) (List.mem_of_getElem? (i := 78) (by decide +kernel)), tb_at 16 (by decide +kernel) rfl, tb_at 1619 (by decide +kernel) rfl, ⟨by decide +kernel, by decide +kernel, by decide +kernel⟩, by decide⟩
theorem mwX11_376 : zMv RX11 376 mX11_isOwn 1 := ⟨tb_at 1510 (by decide +kernel) rfl, tb_at 1512 (by decide +kernel) rfl, tb_pv (q := (yX11_isOwn, 79)) (List.mem_of_getElem? (i := 59) (by decide +kernel)), tb_at 16 (by decide +kernel) rfl, tb_at 1513 (by decide +kernel) rfl, ⟨by decide +kernel, by decide +kernel, by decide +kernel⟩, by decide⟩
theorem mwX11_379 : zMv RX11 379 mX11_named 2 := ⟨tb_at 1538 (by decide +kernel) rfl, tb_at 1540 (by decide +kernel) rfl, tb_pv (q := (yX11_named, 79)) (List.mem_of_getElem? (i := 60) (by decide +kernel)), tb_at 16 (by decide +kernel) rfl, tb_at 1541 (by decide +kernel) rfl, ⟨by decide +kernel, by decide +kernel, by decide +kernel⟩, by decide⟩
theorem mwX11_383 : zMv RX11 383 mX11_counts 1 := ⟨tb_at 1502 (by decide +kernel) rfl, tb_at 1504 (by decide +kernel) rfl, tb_pv (q := (yX11_counts, 79)) (List.mem_of_getElem? (i := 57) (by decide +kernel)), tb_at 16 (by decide +kernel) rfl, tb_at 1505 (by decide +kernel) rfl, ⟨by decide +kernel, by decide +kernel, by decide +kernel⟩, by decide⟩
theorem mwX11_387 : zMv RX11 387 mX11_fresh 0 := ⟨tb_at 1506 (by decide +kernel) rfl, tb_at 1508 (by decide +kernel) rfl, tb_pv (q := (yX11_fresh, 79)) (List.mem_of_getElem? (i := 58) (by decide +kernel)), tb_at 16 (by decide +kernel) rfl, tb_at 1509 (by decide +kernel) rfl, ⟨by decide +kernel, by decide +kernel, by decide +kernel⟩, by decide⟩
theorem mwX11_391 : zMv RX11 391 mX11_must_ 1 := ⟨tb_at 1550 (by decide +kernel) rfl, tb_at 1552 (by decide +kernel) rfl, tb_pv (q := (yX11_must_, 79)) (List.mem_of_getElem? (i := 63) (by decide +kernel)), tb_at 16 (by decide +kernel) rfl, tb_at 1553 (by decide +kernel) rfl, ⟨by decide +kernel, by decide +kernel, by decide +kernel⟩, by decide⟩
theorem mwX11_395 : zMv RX11 395 mX11_number 2 := ⟨tb_at 1554 (by decide +kernel) rfl, tb_at 1556 (by decide +kernel) rfl, tb_pv (q := (yX11_number, 79)) (List.mem_of_getElem? (i := 64) (by decide +kernel)), tb_at 16 (by decide +kernel) rfl, tb_at 1557 (by decide +kernel) rfl, ⟨by decide +kernel, by decide +kernel, by decide +kernel⟩, by decide⟩
theorem mwX11_398 : zMv RX11 398 mX11_asked 1 := ⟨tb_at 1573 (by decide +kernel) rfl, tb_at 1575 (by decide +kernel) rfl, tb_pv (q := (yX11_asked, 79)) (List.mem_of_getElem? (i := 68) (by decide +kernel)), tb_at 16 (by decide +kernel) rfl, tb_at 1576 (by decide +kernel) rfl, ⟨by decide +kernel, by decide +kernel, by decide +kernel⟩, by decide⟩
theorem mwX11_401 : zMv RX11 401 mX11_reads 1 := ⟨tb_at 1585 (by decide +kernel) rfl, tb_at 1587 (by decide +kernel) rfl, tb_pv (q := (yX11_reads, 79)) (List.mem_of_getElem? (i := 71) (by decide +kernel)), tb_at 16 (by decide +kernel) rfl, tb_at 1588 (by decide +kernel) rfl, ⟨by decide +kernel, by decide +kernel, by decide +kernel⟩, by decide⟩
theorem mwX11_405 : zMv RX11 405 mX11_tunnelling 0 := ⟨tb_at 1498 (by decide +kernel) rfl, tb_at 1500 (by decide +kernel) rfl, tb_pv (q := (yX11_tunnelling, 79)) (List.mem_of_getElem? (i := 56) (by decide +kernel)), tb_at 16 (by decide +kernel) rfl, tb_at 1501 (by decide +kernel) rfl, ⟨by decide +kernel, by decide +kernel, by decide +kernel⟩, by decide⟩
theorem mwX11_408 : zMv RX11 408 mX11_holdering 0 := ⟨tb_at 1565 (by decide +kernel) rfl, tb_at 1567 (by decide +kernel) rfl, tb_pv (q := (yX11_holdering, 79)) (List.mem_of_getElem? (i := 66) (by decide +kernel)), tb_at 16 (by decide +kernel) rfl, tb_at 1568 (by decide +kernel) rfl, ⟨by decide +kernel, by decide +kernel, by decide +kernel⟩, by decide⟩
theorem mwX11_411 : zMv RX11 411 mX11_thinking 0 := ⟨tb_at 1569 (by decide +kernel) rfl, tb_at 1571 (by decide +kernel) rfl, tb_pv (q := (yX11_thinking, 79)) (List.mem_of_getElem? (i := 67) (by decide +kernel)), tb_at 16 (by decide +kernel) rfl, tb_at 1572 (by decide +kernel) rfl, ⟨by decide +kernel, by decide +kernel, by decide +kernel⟩, by decide⟩
theorem mwX11_414 : zMv RX11 414 mX11_giving 0 := ⟨tb_at 1577 (by decide +kernel) rfl, tb_at 1579 (by decide +kernel) rfl, tb_pv (q := (yX11_giving, 79)) (List.mem_of_getElem? (i := 69) (by decide +kernel)), tb_at 16 (by decide +kernel) rfl, tb_at 1580 (by decide +kernel) rfl, ⟨by decide +kernel, by decide +kernel, by decide +kernel⟩, by decide⟩
theorem mwX11_417 : zMv RX11 417 mX11_worthing 0 := ⟨tb_at 1581 (by decide +kernel) rfl, tb_at 1583 (by decide +kernel) rfl, tb_pv (q := (yX11_worthing, 79)) (List.mem_of_getElem? (i := 70) (by decide +kernel)), tb_at 16 (by decide +kernel) rfl, tb_at 1584 (by decide +kernel) rfl, ⟨by decide +kernel, by decide +kernel, by decide +kernel⟩, by decide⟩
theorem mwX11_420 : zMv RX11 420 mX11_tiring 0 := ⟨tb_at 1627 (by decide +kernel) rfl, tb_at 1629 (by decide +kernel) rfl, tb_pv (q := (yX11_tiring, 79)) (List.mem_of_getElem? (i := 80) (by decide +kernel)), tb_at 16 (by decide +kernel) rfl, tb_at 1630 (by decide +kernel) rfl, ⟨by decide +kernel, by decide +kernel, by decide +kernel⟩, by decide⟩
theorem mwX11_423 : zMv RX11 423 mX11_telling 1 := ⟨tb_at 1631 (by decide +kernel) rfl, tb_at 1633 (by decide +kernel) rfl, tb_pv (q := (yX11_telling, 79)) (List.mem_of_getElem? (i := 81) (by decide +kernel)), tb_at 16 (by decide +kernel) rfl, tb_at 1634 (by decide +kernel) rfl, ⟨by decide +kernel, by decide +kernel, by decide +kernel⟩, by decide⟩
theorem mwX11_426 : zMv RX11 426 mX11_must 1 := ⟨tb_at 1639 (by decide +kernel) rfl, tb_at 1641 (by decide +kernel) rfl, tb_pv (q := (yX11_must, 79)) (List.mem_of_getElem? (i := 83) (by decide +kernel)), tb_at 16 (by decide +kernel) rfl, tb_at 1642 (by decide +kernel) rfl, ⟨by decide +kernel, by decide +kernel, by decide +kernel⟩, by decide⟩
theorem mwX11_428 : zMv RX11 428 mX11_statement 0 := ⟨tb_at 1481 (by decide +kernel) rfl, tb_at 1483 (by decide +kernel) rfl, tb_pv (q := (yX11_statement, 79)) (List.mem_of_getElem? (i := 52) (by decide +kernel)), tb_at 16 (by decide +kernel) rfl, tb_at 1484 (by decide +kernel) rfl, ⟨by decide +kernel, by decide +kernel, by decide +kernel⟩, by decide⟩
theorem mwX11_431 : zMv RX11 431 mX11_finishes 1 := ⟨tb_at 1635 (by decide +kernel) rfl, tb_at 1637 (by decide +kernel) rfl, tb_pv (q := (yX11_finishes, 79)) (List.mem_of_getElem? (i := 82) (by decide +kernel)), tb_at 16 (by decide +kernel) rfl, tb_at 1638 (by decide +kernel) rfl, ⟨by decide +kernel, by decide +kernel, by decide +kernel⟩, by decide⟩
theorem mwX11_434 : zMv RX11 434 mX11_begin 0 := ⟨tb_at 1643 (by decide +kernel) rfl, tb_at 1645 (by decide +kernel) rfl, tb_pv (q := (yX11_begin, 79)) (List.mem_of_getElem? (i := 84) (by decide +kernel)), tb_at 16 (by decide +kernel) rfl, tb_at 1646 (by decide +kernel) rfl, ⟨by decide +kernel, by decide +kernel, by decide +kernel⟩, by decide⟩
theorem mwX11_437 : zMv RX11 437 mX11_lengthsOf 1 := ⟨tb_at 1684 (by decide +kernel) rfl, tb_at 1686 (by decide +kernel) rfl, tb_pv (q := (yX11_lengthsOf, 79)) (List.mem_of_getElem? (i := 88) (by decide +kernel)), tb_at 16 (by decide +kernel) rfl, tb_at 1687 (by decide +kernel) rfl, ⟨by decide +kernel, by decide +kernel, by decide +kernel⟩, by decide⟩
theorem mwX11_440 : zMv RX11 440 mX11_weightAt 2 := ⟨tb_at 1692 (by decide +kernel) rfl, tb_at 1694 (by decide +kernel) rfl, tb_pv (q := (yX11_weightAt, 79)) (List.mem_of_getElem? (i := 90) (by decide +kernel)), tb_at 16 (by decide +kernel) rfl, tb_at 1695 (by decide +kernel) rfl, ⟨by decide +kernel, by decide +kernel, by decide +kernel⟩, by decide⟩
theorem mwX11_443 : zMv RX11 443 mX11_ring 1 := ⟨tb_at 1659 (by decide +kernel) rfl, tb_at 1661 (by decide +kernel) rfl, tb_pv (q := (yX11_ring, 79)) (List.mem_of_getElem? (i := 85) (by decide +kernel)), tb_at 16 (by decide +kernel) rfl, tb_at 1662 (by decide +kernel) rfl, ⟨by decide +kernel, by decide +kernel, by decide +kernel⟩, by decide⟩
theorem mwX11_446 : zMv RX11 446 mX11_copies 2 := ⟨tb_at 1663 (by decide +kernel) rfl, tb_at 1665 (by decide +kernel) rfl, tb_pv (q := (yX11_copies, 79)) (List.mem_of_getElem? (i := 86) (by decide +kernel)), tb_at 16 (by decide +kernel) rfl, tb_at 1666 (by decide +kernel) rfl, ⟨by decide +kernel, by decide +kernel, by decide +kernel⟩, by decide⟩
theorem mwX11_453 : zMs RX11 453 mX11_held 1 := ⟨tb_at 1771 (by decide +kernel) rfl, tb_at 1772 (by decide +kernel) rfl, tb_at 16 (by decide +kernel) rfl, tb_at 1773 (by decide +kernel) rfl, ⟨by decide +kernel, by decide +kernel, by decide +kernel⟩, by decide⟩
theorem mwX11_457 : zMs RX11 457 mX11_floor 2 := ⟨tb_at 1776 (by decide +kernel) rfl, tb_at 1777 (by decide +kernel) rfl, tb_at 16 (by decide +kernel) rfl, tb_at 1778 (by decide +kernel) rfl, ⟨by decide +kernel, by decide +kernel, by decide +kernel⟩, by decide⟩
theorem mwX11_461 : zMv RX11 461 mX11_part 2 := ⟨tb_at 1764 (by decide +kernel) rfl, tb_at 1766 (by decide +kernel) rfl, tb_pv (q := (yX11_part, 79)) (List.mem_of_getElem? (i := 101) (by decide +kernel)), tb_at 16 (by decide +kernel) rfl, tb_at 1767 (by decide +kernel) rfl, ⟨by decide +kernel, by decide +kernel, by decide +kernel⟩, by decide⟩
theorem mwX11_465 : zMs RX11 465 mX11_two 3 := ⟨tb_at 1768 (by decide +kernel) rfl, tb_at 1769 (by decide +kernel) rfl, tb_at 16 (by decide +kernel) rfl, tb_at 1770 (by decide +kernel) rfl, ⟨by decide +kernel, by decide +kernel, by decide +kernel⟩, by decide⟩
theorem mwX11_469 : zMv RX11 469 mX11_reckons 2 := ⟨tb_at 1760 (by decide +kernel) rfl, tb_at 1762 (by decide +kernel) rfl, tb_pv (q := (yX11_reckons, 79)) (List.mem_of_getElem? (i := 100) (by decide +kernel)), tb_at 16 (by decide +kernel) rfl, tb_at 1763 (by decide +kernel) rfl, ⟨by decide +kernel, by decide +kernel, by decide +kernel⟩, by decide⟩
theorem mwX11_472 : zMs RX11 472 mX11_between 3 := ⟨tb_at 1779 (by decide +kernel) rfl, tb_at 1780 (by decide +kernel) rfl, tb_at 16 (by decide +kernel) rfl, tb_at 1781 (by decide +kernel) rfl, ⟨by decide +kernel, by decide +kernel, by decide +kernel⟩, by decide⟩
theorem mwX11_476 : zMv RX11 476 mX11_asks 6 := ⟨tb_at 1752 (by decide +kernel) rfl, tb_at 1754 (by decide +kernel) rfl, tb_pv (q := (yX11_asks, 79)) (List.mem_of_getElem? (i := 98) (by decide +kernel)), tb_at 16 (by decide +kernel) rfl, tb_at 1755 (by decide +kernel) rfl, ⟨by decide +kernel, by decide +kernel, by decide +kernel⟩, by decide⟩
theorem mwX11_480 : zMv RX11 480 mX11_worthNow 0 := ⟨tb_at 1756 (by decide +kernel) rfl, tb_at 1758 (by decide +kernel) rfl, tb_pv (q := (yX11_worthNow, 79)) (List.mem_of_getElem? (i := 99) (by decide +kernel)), tb_at 16 (by decide +kernel) rfl, tb_at 1759 (by decide +kernel) rfl, ⟨by decide +kernel, by decide +kernel, by decide +kernel⟩, by decide⟩
theorem mwX11_484 : zMs RX11 484 mX11_lesser 2 := ⟨tb_at 1729 (by decide +kernel) rfl, tb_at 1730 (by decide +kernel) rfl, tb_at 16 (by decide +kernel) rfl, tb_at 1731 (by decide +kernel) rfl, ⟨by decide +kernel, by decide +kernel, by decide +kernel⟩, by decide⟩
theorem mwX11_487 : zMv RX11 487 mX11_holdOf 3 := ⟨tb_at 1725 (by decide +kernel) rfl, tb_at 1727 (by decide +kernel) rfl, tb_pv (q := (yX11_holdOf, 79)) (List.mem_of_getElem? (i := 94) (by decide +kernel)), tb_at 16 (by decide +kernel) rfl, tb_at 1728 (by decide +kernel) rfl, ⟨by decide +kernel, by decide +kernel, by decide +kernel⟩, by decide⟩
theorem mwX11_491 : zMv RX11 491 mX11_asksRow 3 := ⟨tb_at 1748 (by decide +kernel) rfl, tb_at 1750 (by decide +kernel) rfl, tb_pv (q := (yX11_asksRow, 79)) (List.mem_of_getElem? (i := 97) (by decide +kernel)), tb_at 16 (by decide +kernel) rfl, tb_at 1751 (by decide +kernel) rfl, ⟨by decide +kernel, by decide +kernel, by decide +kernel⟩, by decide⟩
theorem mwX11_497 : zMv RX11 497 mX11_isTunnel 1 := ⟨tb_at 1680 (by decide +kernel) rfl, tb_at 1682 (by decide +kernel) rfl, tb_pv (q := (yX11_isTunnel, 79)) (List.mem_of_getElem? (i := 87) (by decide +kernel)), tb_at 16 (by decide +kernel) rfl, tb_at 1683 (by decide +kernel) rfl, ⟨by decide +kernel, by decide +kernel, by decide +kernel⟩, by decide⟩
theorem mwX11_500 : zMv RX11 500 mX11_weights 1 := ⟨tb_at 1688 (by decide +kernel) rfl, tb_at 1690 (by decide +kernel) rfl, tb_pv (q := (yX11_weights, 79)) (List.mem_of_getElem? (i := 89) (by decide +kernel)), tb_at 16 (by decide +kernel) rfl, tb_at 1691 (by decide +kernel) rfl, ⟨by decide +kernel, by decide +kernel, by decide +kernel⟩, by decide⟩
theorem mwX11_503 : zMv RX11 503 mX11_lengthAt 2 := ⟨tb_at 1696 (by decide +kernel) rfl, tb_at 1698 (by decide +kernel) rfl, tb_pv (q := (yX11_lengthAt, 79)) (List.mem_of_getElem? (i := 91) (by decide +kernel)), tb_at 16 (by decide +kernel) rfl, tb_at 1699 (by decide +kernel) rfl, ⟨by decide +kernel, by decide +kernel, by decide +kernel⟩, by decide⟩
theorem mwX11_506 : zMv RX11 506 mX11_isHolder 1 := ⟨tb_at 1704 (by decide +kernel) rfl, tb_at 1706 (by decide +kernel) rfl, tb_pv (q := (yX11_isHolder, 79)) (List.mem_of_getElem? (i := 92) (by decide +kernel)), tb_at 16 (by decide +kernel) rfl, tb_at 1707 (by decide +kernel) rfl, ⟨by decide +kernel, by decide +kernel, by decide +kernel⟩, by decide⟩
theorem mwX11_510 : zMv RX11 510 mX11_canBe 3 := ⟨tb_at 1721 (by decide +kernel) rfl, tb_at 1723 (by decide +kernel) rfl, tb_pv (q := (yX11_canBe, 79)) (List.mem_of_getElem? (i := 93) (by decide +kernel)), tb_at 16 (by decide +kernel) rfl, tb_at 1724 (by decide +kernel) rfl, ⟨by decide +kernel, by decide +kernel, by decide +kernel⟩, by decide⟩
theorem mwX11_513 : zMv RX11 513 mX11_allHold 2 := ⟨tb_at 1740 (by decide +kernel) rfl, tb_at 1742 (by decide +kernel) rfl, tb_pv (q := (yX11_allHold, 79)) (List.mem_of_getElem? (i := 95) (by decide +kernel)), tb_at 16 (by decide +kernel) rfl, tb_at 1743 (by decide +kernel) rfl, ⟨by decide +kernel, by decide +kernel, by decide +kernel⟩, by decide⟩
theorem mwX11_516 : zMv RX11 516 mX11_worthRow 3 := ⟨tb_at 1744 (by decide +kernel) rfl, tb_at 1746 (by decide +kernel) rfl, tb_pv (q := (yX11_worthRow, 79)) (List.mem_of_getElem? (i := 96) (by decide +kernel)), tb_at 16 (by decide +kernel) rfl, tb_at 1747 (by decide +kernel) rfl, ⟨by decide +kernel, by decide +kernel, by decide +kernel⟩, by decide⟩
theorem mwX11_519 : zMv RX11 519 mX11_breathNow 0 := ⟨tb_at 1786 (by decide +kernel) rfl, tb_at 1788 (by decide +kernel) rfl, tb_pv (q := (yX11_breathNow, 79)) (List.mem_of_getElem? (i := 102) (by decide +kernel)), tb_at 16 (by decide +kernel) rfl, tb_at 1789 (by decide +kernel) rfl, ⟨by decide +kernel, by decide +kernel, by decide +kernel⟩, by decide⟩
theorem mwX11_524 : zMv RX11 524 mX11_worthAlone 4 := ⟨tb_at 1798 (by decide +kernel) rfl, tb_at 1800 (by decide +kernel) rfl, tb_pv (q := (yX11_worthAlone, 79)) (List.mem_of_getElem? (i := 104) (by decide +kernel)), tb_at 16 (by decide +kernel) rfl, tb_at 1801 (by decide +kernel) rfl, ⟨by decide +kernel, by decide +kernel, by decide +kernel⟩, by decide⟩
theorem mwX11_528 : zMv RX11 528 mX11_findsAlone 2 := ⟨tb_at 1794 (by decide +kernel) rfl, tb_at 1796 (by decide +kernel) rfl, tb_pv (q := (yX11_findsAlone, 79)) (List.mem_of_getElem? (i := 103) (by decide +kernel)), tb_at 16 (by decide +kernel) rfl, tb_at 1797 (by decide +kernel) rfl, ⟨by decide +kernel, by decide +kernel, by decide +kernel⟩, by decide⟩
theorem mwX11_531 : zMv RX11 531 mX11_thousandths 2 := ⟨tb_at 1802 (by decide +kernel) rfl, tb_at 1804 (by decide +kernel) rfl, tb_pv (q := (yX11_thousandths, 79)) (List.mem_of_getElem? (i := 105) (by decide +kernel)), tb_at 16 (by decide +kernel) rfl, tb_at 1805 (by decide +kernel) rfl, ⟨by decide +kernel, by decide +kernel, by decide +kernel⟩, by decide⟩
theorem mwX11_535 : zMv RX11 535 mX11_findsOn 4 := ⟨tb_at 1811 (by decide +kernel) rfl, tb_at 1813 (by decide +kernel) rfl, tb_pv (q := (yX11_findsOn, 79)) (List.mem_of_getElem? (i := 106) (by decide +kernel)), tb_at 16 (by decide +kernel) rfl, tb_at 1814 (by decide +kernel) rfl, ⟨by decide +kernel, by decide +kernel, by decide +kernel⟩, by decide⟩
theorem mwX11_539 : zMv RX11 539 mX11_worthBy 3 := ⟨tb_at 1823 (by decide +kernel) rfl, tb_at 1825 (by decide +kernel) rfl, tb_pv (q := (yX11_worthBy, 79)) (List.mem_of_getElem? (i := 108) (by decide +kernel)), tb_at 16 (by decide +kernel) rfl, tb_at 1826 (by decide +kernel) rfl, ⟨by decide +kernel, by decide +kernel, by decide +kernel⟩, by decide⟩
theorem mwX11_542 : zMv RX11 542 mX11_takes 2 := ⟨tb_at 1819 (by decide +kernel) rfl, tb_at 1821 (by decide +kernel) rfl, tb_pv (q := (yX11_takes, 79)) (List.mem_of_getElem? (i := 107) (by decide +kernel)), tb_at 16 (by decide +kernel) rfl, tb_at 1822 (by decide +kernel) rfl, ⟨by decide +kernel, by decide +kernel, by decide +kernel⟩, by decide⟩
theorem mwX11_548 : zMv RX11 548 mX11_madeBy 2 := ⟨tb_at 1836 (by decide +kernel) rfl, tb_at 1838 (by decide +kernel) rfl, tb_pv (q := (yX11_madeBy, 79)) (List.mem_of_getElem? (i := 109) (by decide +kernel)), tb_at 16 (by decide +kernel) rfl, tb_at 1839 (by decide +kernel) rfl, ⟨by decide +kernel, by decide +kernel, by decide +kernel⟩, by decide⟩
theorem mwX11_551 : zMv RX11 551 mX11_isByFaces 1 := ⟨tb_at 1852 (by decide +kernel) rfl, tb_at 1854 (by decide +kernel) rfl, tb_pv (q := (yX11_isByFaces, 79)) (List.mem_of_getElem? (i := 110) (by decide +kernel)), tb_at 16 (by decide +kernel) rfl, tb_at 1855 (by decide +kernel) rfl, ⟨by decide +kernel, by decide +kernel, by decide +kernel⟩, by decide⟩
theorem mwX11_562 : zMv RX11 562 mX11_draw 1 := ⟨tb_at 1868 (by decide +kernel) rfl, tb_at 1870 (by decide +kernel) rfl, tb_pv (q := (yX11_draw, 79)) (List.mem_of_getElem? (i := 113) (by decide +kernel)), tb_at 16 (by decide +kernel) rfl, tb_at 1871 (by decide +kernel) rfl, ⟨by decide +kernel, by decide +kernel, by decide +kernel⟩, by decide⟩
theorem mwX11_565 : zMv RX11 565 mX11_laughing 2 := ⟨tb_at 1876 (by decide +kernel) rfl, tb_at 1878 (by decide +kernel) rfl, tb_pv (q := (yX11_laughing, 79)) (List.mem_of_getElem? (i := 114) (by decide +kernel)), tb_at 16 (by decide +kernel) rfl, tb_at 1879 (by decide +kernel) rfl, ⟨by decide +kernel, by decide +kernel, by decide +kernel⟩, by decide⟩
theorem mwX11_570 : zMv RX11 570 mX11_writesDown 3 := ⟨tb_at 1882 (by decide +kernel) rfl, tb_at 1884 (by decide +kernel) rfl, tb_pv (q := (yX11_writesDown, 79)) (List.mem_of_getElem? (i := 115) (by decide +kernel)), tb_at 16 (by decide +kernel) rfl, tb_at 1885 (by decide +kernel) rfl, ⟨by decide +kernel, by decide +kernel, by decide +kernel⟩, by decide⟩
theorem mwX11_573 : zMv RX11 573 mX11_keeps 0 := ⟨tb_at 1860 (by decide +kernel) rfl, tb_at 1862 (by decide +kernel) rfl, tb_pv (q := (yX11_keeps, 79)) (List.mem_of_getElem? (i := 111) (by decide +kernel)), tb_at 16 (by decide +kernel) rfl, tb_at 1863 (by decide +kernel) rfl, ⟨by decide +kernel, by decide +kernel, by decide +kernel⟩, by decide⟩
theorem mwX11_576 : zMv RX11 576 mX11_driven 0 := ⟨tb_at 1864 (by decide +kernel) rfl, tb_at 1866 (by decide +kernel) rfl, tb_pv (q := (yX11_driven, 79)) (List.mem_of_getElem? (i := 112) (by decide +kernel)), tb_at 16 (by decide +kernel) rfl, tb_at 1867 (by decide +kernel) rfl, ⟨by decide +kernel, by decide +kernel, by decide +kernel⟩, by decide⟩
theorem mwX11_579 : zMv RX11 579 mX11_writes 1 := ⟨tb_at 1910 (by decide +kernel) rfl, tb_at 1912 (by decide +kernel) rfl, tb_pv (q := (yX11_writes, 79)) (List.mem_of_getElem? (i := 116) (by decide +kernel)), tb_at 16 (by decide +kernel) rfl, tb_at 1913 (by decide +kernel) rfl, ⟨by decide +kernel, by decide +kernel, by decide +kernel⟩, by decide⟩
theorem mwX11_583 : zMv RX11 583 mX11_holderOn 2 := ⟨tb_at 1927 (by decide +kernel) rfl, tb_at 1929 (by decide +kernel) rfl, tb_pv (q := (yX11_holderOn, 79)) (List.mem_of_getElem? (i := 118) (by decide +kernel)), tb_at 16 (by decide +kernel) rfl, tb_at 1930 (by decide +kernel) rfl, ⟨by decide +kernel, by decide +kernel, by decide +kernel⟩, by decide⟩
theorem mwX11_586 : zMv RX11 586 mX11_comesOn 1 := ⟨tb_at 1923 (by decide +kernel) rfl, tb_at 1925 (by decide +kernel) rfl, tb_pv (q := (yX11_comesOn, 79)) (List.mem_of_getElem? (i := 117) (by decide +kernel)), tb_at 16 (by decide +kernel) rfl, tb_at 1926 (by decide +kernel) rfl, ⟨by decide +kernel, by decide +kernel, by decide +kernel⟩, by decide⟩
theorem mwJ0_335 : zMv RJ0 335 mJ0_coder_7d493 0 := ⟨tb_at 323 (by decide +kernel) rfl, tb_at 324 (by decide +kernel) rfl, tb_at 325 (by decide +kernel) rfl, tb_at 12 (by decide +kernel) rfl, tb_at 326 (by decide +kernel) rfl, ⟨by decide +kernel, by decide +kernel, by decide +kernel⟩, by decide⟩
theorem mwJ0_492 : zMv RJ0 492 mJ0_isLatin1_aae02 0 := ⟨tb_at 333 (by decide +kernel) rfl, tb_at 334 (by decide +kernel) rfl, tb_at 335 (by decide +kernel) rfl, tb_at 12 (by decide +kernel) rfl, tb_at 336 (by decide +kernel) rfl, ⟨by decide +kernel, by decide +kernel, by decide +kernel⟩, by decide⟩
theorem mwJ0_495 : zMs RJ0 495 mJ1_charAt_3b067 2 := ⟨tb_at 337 (by decide +kernel) rfl, tb_at 338 (by decide +kernel) rfl, tb_at 13 (by decide +kernel) rfl, tb_at 339 (by decide +kernel) rfl, ⟨by decide +kernel, by decide +kernel, by decide +kernel⟩, by decide⟩
theorem mwJ0_498 : zMs RJ0 498 mJ2_charAt_3b067 2 := ⟨tb_at 348 (by decide +kernel) rfl, tb_at 349 (by decide +kernel) rfl, tb_at 15 (by decide +kernel) rfl, tb_at 350 (by decide +kernel) rfl, ⟨by decide +kernel, by decide +kernel, by decide +kernel⟩, by decide⟩
theorem mwJ0_505 : zMv RJ0 505 mJ0_length_8abf5 0 := ⟨tb_at 522 (by decide +kernel) rfl, tb_at 320 (by decide +kernel) rfl, tb_at 321 (by decide +kernel) rfl, tb_at 12 (by decide +kernel) rfl, tb_at 322 (by decide +kernel) rfl, ⟨by decide +kernel, by decide +kernel, by decide +kernel⟩, by decide⟩
theorem mwJ0_633 : zMv RJ0 633 mJ0_indexOf_7cf53 2 := ⟨tb_at 518 (by decide +kernel) rfl, tb_at 519 (by decide +kernel) rfl, tb_at 520 (by decide +kernel) rfl, tb_at 12 (by decide +kernel) rfl, tb_at 521 (by decide +kernel) rfl, ⟨by decide +kernel, by decide +kernel, by decide +kernel⟩, by decide⟩
theorem mwJ0_637 : zMs RJ0 637 mJ1_indexOf_4cfef 4 := ⟨tb_at 523 (by decide +kernel) rfl, tb_at 524 (by decide +kernel) rfl, tb_at 13 (by decide +kernel) rfl, tb_at 525 (by decide +kernel) rfl, ⟨by decide +kernel, by decide +kernel, by decide +kernel⟩, by decide⟩
theorem mwJ0_640 : zMs RJ0 640 mJ2_indexOf_4cfef 4 := ⟨tb_at 538 (by decide +kernel) rfl, tb_at 539 (by decide +kernel) rfl, tb_at 15 (by decide +kernel) rfl, tb_at 540 (by decide +kernel) rfl, ⟨by decide +kernel, by decide +kernel, by decide +kernel⟩, by decide⟩
theorem mwJ0_1059 : zMs RJ0 1059 mJ3_checkIndex_8e157 3 := ⟨tb_at 345 (by decide +kernel) rfl, tb_at 346 (by decide +kernel) rfl, tb_at 14 (by decide +kernel) rfl, tb_at 347 (by decide +kernel) rfl, ⟨by decide +kernel, by decide +kernel, by decide +kernel⟩, by decide⟩
theorem mwJ0_1062 : zMs RJ0 1062 mJ3_checkFromToIndex_8c36e 4 := ⟨tb_at 553 (by decide +kernel) rfl, tb_at 554 (by decide +kernel) rfl, tb_at 14 (by decide +kernel) rfl, tb_at 555 (by decide +kernel) rfl, ⟨by decide +kernel, by decide +kernel, by decide +kernel⟩, by decide⟩
theorem mwJ1_9 : zMs RJ1 9 mJ0_checkIndex_df160 2 := ⟨tb_at 340 (by decide +kernel) rfl, tb_at 341 (by decide +kernel) rfl, tb_at 12 (by decide +kernel) rfl, tb_at 342 (by decide +kernel) rfl, ⟨by decide +kernel, by decide +kernel, by decide +kernel⟩, by decide⟩
theorem mwJ1_38 : zMs RJ1 38 mJ9_min_7cf53 2 := ⟨tb_at 532 (by decide +kernel) rfl, tb_at 533 (by decide +kernel) rfl, tb_at 18 (by decide +kernel) rfl, tb_at 534 (by decide +kernel) rfl, ⟨by decide +kernel, by decide +kernel, by decide +kernel⟩, by decide⟩
theorem mwJ1_88 : zMs RJ1 88 mJ1_canEncode_9a6ad 1 := ⟨tb_at 526 (by decide +kernel) rfl, tb_at 527 (by decide +kernel) rfl, tb_at 13 (by decide +kernel) rfl, tb_at 528 (by decide +kernel) rfl, ⟨by decide +kernel, by decide +kernel, by decide +kernel⟩, by decide⟩
theorem mwJ1_92 : zMs RJ1 92 mJ9_max_7cf53 2 := ⟨tb_at 529 (by decide +kernel) rfl, tb_at 530 (by decide +kernel) rfl, tb_at 18 (by decide +kernel) rfl, tb_at 531 (by decide +kernel) rfl, ⟨by decide +kernel, by decide +kernel, by decide +kernel⟩, by decide⟩
theorem mwJ1_95 : zMs RJ1 95 mJ1_indexOfChar_4cfef 4 := ⟨tb_at 535 (by decide +kernel) rfl, tb_at 536 (by decide +kernel) rfl, tb_at 13 (by decide +kernel) rfl, tb_at 537 (by decide +kernel) rfl, ⟨by decide +kernel, by decide +kernel, by decide +kernel⟩, by decide⟩
theorem mwJ2_48 : zMs RJ2 48 mJ2_length_9d52b 1 := ⟨tb_at 354 (by decide +kernel) rfl, tb_at 355 (by decide +kernel) rfl, tb_at 15 (by decide +kernel) rfl, tb_at 356 (by decide +kernel) rfl, ⟨by decide +kernel, by decide +kernel, by decide +kernel⟩, by decide⟩
theorem mwJ2_67 : zMs RJ2 67 mJ2_checkIndex_2214a 2 := ⟨tb_at 351 (by decide +kernel) rfl, tb_at 352 (by decide +kernel) rfl, tb_at 15 (by decide +kernel) rfl, tb_at 353 (by decide +kernel) rfl, ⟨by decide +kernel, by decide +kernel, by decide +kernel⟩, by decide⟩
theorem mwJ2_71 : zMs RJ2 71 mJ2_getChar_3b067 2 := ⟨tb_at 358 (by decide +kernel) rfl, tb_at 359 (by decide +kernel) rfl, tb_at 15 (by decide +kernel) rfl, tb_at 360 (by decide +kernel) rfl, ⟨by decide +kernel, by decide +kernel, by decide +kernel⟩, by decide⟩
theorem mwJ2_96 : zMs RJ2 96 mJ2_checkBoundsBeginEnd_d044e 3 := ⟨tb_at 547 (by decide +kernel) rfl, tb_at 548 (by decide +kernel) rfl, tb_at 15 (by decide +kernel) rfl, tb_at 549 (by decide +kernel) rfl, ⟨by decide +kernel, by decide +kernel, by decide +kernel⟩, by decide⟩
theorem mwJ2_157 : zMs RJ2 157 mJ11_highSurrogate_5068e 1 := ⟨tb_at 565 (by decide +kernel) rfl, tb_at 566 (by decide +kernel) rfl, tb_at 19 (by decide +kernel) rfl, tb_at 567 (by decide +kernel) rfl, ⟨by decide +kernel, by decide +kernel, by decide +kernel⟩, by decide⟩
theorem mwJ2_161 : zMs RJ2 161 mJ11_lowSurrogate_5068e 1 := ⟨tb_at 569 (by decide +kernel) rfl, tb_at 570 (by decide +kernel) rfl, tb_at 19 (by decide +kernel) rfl, tb_at 571 (by decide +kernel) rfl, ⟨by decide +kernel, by decide +kernel, by decide +kernel⟩, by decide⟩
theorem mwJ2_164 : zMs RJ2 164 mJ11_isValidCodePoint_9a6ad 1 := ⟨tb_at 562 (by decide +kernel) rfl, tb_at 563 (by decide +kernel) rfl, tb_at 19 (by decide +kernel) rfl, tb_at 564 (by decide +kernel) rfl, ⟨by decide +kernel, by decide +kernel, by decide +kernel⟩, by decide⟩
theorem mwJ2_183 : zMs RJ2 183 mJ9_min_7cf53 2 := ⟨tb_at 542 (by decide +kernel) rfl, tb_at 533 (by decide +kernel) rfl, tb_at 18 (by decide +kernel) rfl, tb_at 534 (by decide +kernel) rfl, ⟨by decide +kernel, by decide +kernel, by decide +kernel⟩, by decide⟩
theorem mwJ2_224 : zMs RJ2 224 mJ9_max_7cf53 2 := ⟨tb_at 541 (by decide +kernel) rfl, tb_at 530 (by decide +kernel) rfl, tb_at 18 (by decide +kernel) rfl, tb_at 531 (by decide +kernel) rfl, ⟨by decide +kernel, by decide +kernel, by decide +kernel⟩, by decide⟩
theorem mwJ2_228 : zMs RJ2 228 mJ2_indexOfChar_4cfef 4 := ⟨tb_at 544 (by decide +kernel) rfl, tb_at 545 (by decide +kernel) rfl, tb_at 15 (by decide +kernel) rfl, tb_at 546 (by decide +kernel) rfl, ⟨by decide +kernel, by decide +kernel, by decide +kernel⟩, by decide⟩
theorem mwJ2_232 : zMs RJ2 232 mJ2_indexOfSupplementary_4cfef 4 := ⟨tb_at 559 (by decide +kernel) rfl, tb_at 560 (by decide +kernel) rfl, tb_at 15 (by decide +kernel) rfl, tb_at 561 (by decide +kernel) rfl, ⟨by decide +kernel, by decide +kernel, by decide +kernel⟩, by decide⟩
theorem mwJ2_241 : zMs RJ2 241 mJ0_checkBoundsBeginEnd_23922 3 := ⟨tb_at 550 (by decide +kernel) rfl, tb_at 551 (by decide +kernel) rfl, tb_at 12 (by decide +kernel) rfl, tb_at 552 (by decide +kernel) rfl, ⟨by decide +kernel, by decide +kernel, by decide +kernel⟩, by decide⟩
theorem mwJ2_244 : zMs RJ2 244 mJ2_indexOfCharUnsafe_4cfef 4 := ⟨tb_at 556 (by decide +kernel) rfl, tb_at 557 (by decide +kernel) rfl, tb_at 15 (by decide +kernel) rfl, tb_at 558 (by decide +kernel) rfl, ⟨by decide +kernel, by decide +kernel, by decide +kernel⟩, by decide⟩
theorem mwJ2_414 : zMs RJ2 414 mJ0_checkIndex_df160 2 := ⟨tb_at 357 (by decide +kernel) rfl, tb_at 341 (by decide +kernel) rfl, tb_at 12 (by decide +kernel) rfl, tb_at 342 (by decide +kernel) rfl, ⟨by decide +kernel, by decide +kernel, by decide +kernel⟩, by decide⟩
theorem mwJ7_13 : zMs RJ7 13 mJ7_rangeCheck_23922 3 := ⟨tb_at 926 (by decide +kernel) rfl, tb_at 927 (by decide +kernel) rfl, tb_at 17 (by decide +kernel) rfl, tb_at 928 (by decide +kernel) rfl, ⟨by decide +kernel, by decide +kernel, by decide +kernel⟩, by decide⟩
theorem ciX10_197 : Cond.constant RX10 197 (-1000000000) ∈ TB := tb_at 801 (by decide +kernel) rfl
theorem ciX3_44 : Cond.constant RX3 44 (100000) ∈ TB := tb_at 1157 (by decide +kernel) rfl
theorem ciX3_80 : Cond.constant RX3 80 (-99999) ∈ TB := tb_at 1185 (by decide +kernel) rfl
theorem ciX3_81 : Cond.constant RX3 81 (99999) ∈ TB := tb_at 1186 (by decide +kernel) rfl
theorem ciX7_32 : Cond.constant RX7 32 (-99999) ∈ TB := tb_at 1080 (by decide +kernel) rfl
theorem ciX7_33 : Cond.constant RX7 33 (99999) ∈ TB := tb_at 1081 (by decide +kernel) rfl
theorem ciX11_509 : Cond.constant RX11 509 (-1000000000) ∈ TB := tb_at 1712 (by decide +kernel) rfl
theorem ciX11_568 : Cond.constant RX11 568 (-99999) ∈ TB := tb_at 1880 (by decide +kernel) rfl
theorem ciX11_569 : Cond.constant RX11 569 (99999) ∈ TB := tb_at 1881 (by decide +kernel) rfl
theorem ciX11_582 : Cond.constant RX11 582 (100000) ∈ TB := tb_at 1914 (by decide +kernel) rfl
theorem ciJ11_76 : Cond.constant RJ11 76 (56320) ∈ TB := tb_at 572 (by decide +kernel) rfl
theorem ciJ11_110 : Cond.constant RJ11 110 (55232) ∈ TB := tb_at 568 (by decide +kernel) rfl
theorem ciJ6_265 : Cond.constant RJ6 265 (1431655765) ∈ TB := tb_at 1040 (by decide +kernel) rfl
theorem ciJ6_266 : Cond.constant RJ6 266 (858993459) ∈ TB := tb_at 1041 (by decide +kernel) rfl
theorem ciJ6_267 : Cond.constant RJ6 267 (252645135) ∈ TB := tb_at 1042 (by decide +kernel) rfl
theorem ciJ2_227 : Cond.constant RJ2 227 (65536) ∈ TB := tb_at 543 (by decide +kernel) rfl
theorem clX10_251 : Cond.constantLong RX10 251 (100) ∈ TB := tb_at 980 (by decide +kernel) rfl
theorem clX10_350 : Cond.constantLong RX10 350 (1103515245) ∈ TB := tb_at 1069 (by decide +kernel) rfl
theorem clX10_352 : Cond.constantLong RX10 352 (12345) ∈ TB := tb_at 1070 (by decide +kernel) rfl
theorem clX10_354 : Cond.constantLong RX10 354 (2147483647) ∈ TB := tb_at 1071 (by decide +kernel) rfl
theorem clX10_356 : Cond.constantLong RX10 356 (1000) ∈ TB := tb_at 809 (by decide +kernel) rfl
theorem clX0_70 : Cond.constantLong RX0 70 (-1000000000000000) ∈ TB := tb_at 915 (by decide +kernel) rfl
theorem clX0_147 : Cond.constantLong RX0 147 (100) ∈ TB := tb_at 979 (by decide +kernel) rfl
theorem clX8_68 : Cond.constantLong RX8 68 (-1000000) ∈ TB := tb_at 880 (by decide +kernel) rfl
theorem clX8_70 : Cond.constantLong RX8 70 (1000000) ∈ TB := tb_at 881 (by decide +kernel) rfl
theorem clX11_280 : Cond.constantLong RX11 280 (128047712724332) ∈ TB := tb_at 1493 (by decide +kernel) rfl
theorem clX11_282 : Cond.constantLong RX11 282 (6775152) ∈ TB := tb_at 1514 (by decide +kernel) rfl
theorem clX11_284 : Cond.constantLong RX11 284 (24948) ∈ TB := tb_at 1515 (by decide +kernel) rfl
theorem clX11_286 : Cond.constantLong RX11 286 (131277443786867) ∈ TB := tb_at 1516 (by decide +kernel) rfl
theorem clX11_288 : Cond.constantLong RX11 288 (114827769177458) ∈ TB := tb_at 1517 (by decide +kernel) rfl
theorem clX11_290 : Cond.constantLong RX11 290 (108243466679400) ∈ TB := tb_at 1518 (by decide +kernel) rfl
theorem clX11_292 : Cond.constantLong RX11 292 (119165837338739) ∈ TB := tb_at 1519 (by decide +kernel) rfl
theorem clX11_294 : Cond.constantLong RX11 294 (127991794264947) ∈ TB := tb_at 1520 (by decide +kernel) rfl
theorem clX11_296 : Cond.constantLong RX11 296 (444150998387) ∈ TB := tb_at 1521 (by decide +kernel) rfl
theorem clX11_298 : Cond.constantLong RX11 298 (512970880104) ∈ TB := tb_at 1522 (by decide +kernel) rfl
theorem clX11_300 : Cond.constantLong RX11 300 (499985311091) ∈ TB := tb_at 1523 (by decide +kernel) rfl
theorem clX11_302 : Cond.constantLong RX11 302 (1936024942) ∈ TB := tb_at 1524 (by decide +kernel) rfl
theorem clX11_304 : Cond.constantLong RX11 304 (1718185573) ∈ TB := tb_at 1525 (by decide +kernel) rfl
theorem clX11_306 : Cond.constantLong RX11 306 (1751477348) ∈ TB := tb_at 1526 (by decide +kernel) rfl
theorem clX11_308 : Cond.constantLong RX11 308 (1819242087) ∈ TB := tb_at 1527 (by decide +kernel) rfl
theorem clX11_310 : Cond.constantLong RX11 310 (1835099237) ∈ TB := tb_at 1528 (by decide +kernel) rfl
theorem clX11_312 : Cond.constantLong RX11 312 (1818325876) ∈ TB := tb_at 1529 (by decide +kernel) rfl
theorem clX11_314 : Cond.constantLong RX11 314 (108187566237038) ∈ TB := tb_at 1530 (by decide +kernel) rfl
theorem clX11_316 : Cond.constantLong RX11 316 (26982) ∈ TB := tb_at 1531 (by decide +kernel) rfl
theorem clX11_318 : Cond.constantLong RX11 318 (28530) ∈ TB := tb_at 1532 (by decide +kernel) rfl
theorem clX11_320 : Cond.constantLong RX11 320 (6385252) ∈ TB := tb_at 1533 (by decide +kernel) rfl
theorem clX11_322 : Cond.constantLong RX11 322 (7237492) ∈ TB := tb_at 1534 (by decide +kernel) rfl
theorem clX11_324 : Cond.constantLong RX11 324 (6384748) ∈ TB := tb_at 1535 (by decide +kernel) rfl
theorem clX11_326 : Cond.constantLong RX11 326 (7170414) ∈ TB := tb_at 1536 (by decide +kernel) rfl
theorem clX11_328 : Cond.constantLong RX11 328 (7168376) ∈ TB := tb_at 1537 (by decide +kernel) rfl
theorem clX11_449 : Cond.constantLong RX11 449 (1000000) ∈ TB := tb_at 1774 (by decide +kernel) rfl
theorem clX11_451 : Cond.constantLong RX11 451 (-1000000) ∈ TB := tb_at 1775 (by decide +kernel) rfl
theorem clX11_495 : Cond.constantLong RX11 495 (255) ∈ TB := tb_at 1675 (by decide +kernel) rfl
theorem clX11_522 : Cond.constantLong RX11 522 (1000) ∈ TB := tb_at 1806 (by decide +kernel) rfl
theorem clX11_546 : Cond.constantLong RX11 546 (100) ∈ TB := tb_at 1831 (by decide +kernel) rfl
theorem clX11_554 : Cond.constantLong RX11 554 (1103515245) ∈ TB := tb_at 1872 (by decide +kernel) rfl
theorem clX11_556 : Cond.constantLong RX11 556 (12345) ∈ TB := tb_at 1873 (by decide +kernel) rfl
theorem clX11_558 : Cond.constantLong RX11 558 (2147483648) ∈ TB := tb_at 1874 (by decide +kernel) rfl
theorem clX11_560 : Cond.constantLong RX11 560 (64) ∈ TB := tb_at 1875 (by decide +kernel) rfl
theorem nwX10_9 : zNo RX10 9 9 := ⟨RX9, TX9, rfl, tb_at 30 (by decide +kernel) rfl, tb_at 31 (by decide +kernel) rfl, tb_at 2 (by decide +kernel) rfl, by decide +kernel⟩
theorem nwX10_16 : zNo RX10 16 7 := ⟨RX7, TX7, rfl, tb_at 48 (by decide +kernel) rfl, tb_at 49 (by decide +kernel) rfl, tb_at 3 (by decide +kernel) rfl, by decide +kernel⟩
theorem nwX10_23 : zNo RX10 23 2 := ⟨RX2, TX2, rfl, tb_at 60 (by decide +kernel) rfl, tb_at 61 (by decide +kernel) rfl, tb_at 4 (by decide +kernel) rfl, by decide +kernel⟩
theorem nwX10_30 : zNo RX10 30 4 := ⟨RX4, TX4, rfl, tb_at 77 (by decide +kernel) rfl, tb_at 78 (by decide +kernel) rfl, tb_at 5 (by decide +kernel) rfl, by decide +kernel⟩
theorem nwX10_32 : zNo RX10 32 6 := ⟨RX6, TX6, rfl, tb_at 79 (by decide +kernel) rfl, tb_at 80 (by decide +kernel) rfl, tb_at 6 (by decide +kernel) rfl, by decide +kernel⟩
theorem nwX10_42 : zNo RX10 42 0 := ⟨RX0, TX0, rfl, tb_at 224 (by decide +kernel) rfl, tb_at 225 (by decide +kernel) rfl, tb_at 8 (by decide +kernel) rfl, by decide +kernel⟩
theorem nwX10_51 : zNo RX10 51 1 := ⟨RX1, TX1, rfl, tb_at 276 (by decide +kernel) rfl, tb_at 277 (by decide +kernel) rfl, tb_at 9 (by decide +kernel) rfl, by decide +kernel⟩
theorem nwX10_58 : zNo RX10 58 3 := ⟨RX3, TX3, rfl, tb_at 297 (by decide +kernel) rfl, tb_at 298 (by decide +kernel) rfl, tb_at 10 (by decide +kernel) rfl, by decide +kernel⟩
theorem nwX10_73 : zNo RX10 73 5 := ⟨RX5, TX5, rfl, tb_at 312 (by decide +kernel) rfl, tb_at 313 (by decide +kernel) rfl, tb_at 11 (by decide +kernel) rfl, by decide +kernel⟩
theorem nwX6_58 : zNo RX6 58 8 := ⟨RX8, TX8, rfl, tb_at 85 (by decide +kernel) rfl, tb_at 86 (by decide +kernel) rfl, tb_at 7 (by decide +kernel) rfl, by decide +kernel⟩
theorem nwL_7 : zNo RL 7 10 := ⟨RX10, TX10, rfl, tb_at 22 (by decide +kernel) rfl, tb_at 23 (by decide +kernel) rfl, tb_at 1 (by decide +kernel) rfl, by decide +kernel⟩
theorem nwL_10 : zNo RL 10 11 := ⟨RX11, TX11, rfl, tb_at 1206 (by decide +kernel) rfl, tb_at 1207 (by decide +kernel) rfl, tb_at 16 (by decide +kernel) rfl, by decide +kernel⟩
theorem ar_byte : Cond.arrayClass .byte ∈ TB := tb_at 47 (by decide +kernel) rfl
theorem ar_int : Cond.arrayClass .int ∈ TB := tb_at 59 (by decide +kernel) rfl
theorem ar_long : Cond.arrayClass .long ∈ TB := tb_at 275 (by decide +kernel) rfl
theorem ar_boolean : Cond.arrayClass .boolean ∈ TB := tb_at 1450 (by decide +kernel) rfl
