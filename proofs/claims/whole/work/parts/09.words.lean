/-! MY OWN (by program): methods, and the words of calls -/
abbrev mX0_init : zMI := (yX0_init, cX0_init, 2, none)
abbrev mX0_forget : zMI := (yX0_forget, cX0_forget, 1, none)
abbrev mX0_plan : zMI := (yX0_plan, cX0_plan, 5, none)
abbrev mX0_tunnelAt : zMI := (yX0_tunnelAt, cX0_tunnelAt, 3, (some .int))
abbrev mX0_bestFrom : zMI := (yX0_bestFrom, cX0_bestFrom, 6, (some .long))
abbrev mX0_clearTotals : zMI := (yX0_clearTotals, cX0_clearTotals, 3, none)
abbrev mX0_addPlanned : zMI := (yX0_addPlanned, cX0_addPlanned, 11, none)
abbrev mX0_addToSeconds : zMI := (yX0_addToSeconds, cX0_addToSeconds, 7, none)
abbrev mX0_bestSecond : zMI := (yX0_bestSecond, cX0_bestSecond, 9, (some .int))
abbrev mX0_settle : zMI := (yX0_settle, cX0_settle, 3, none)
abbrev mX0_isAnyMoved : zMI := (yX0_isAnyMoved, cX0_isAnyMoved, 6, (some .boolean))
abbrev mX0_fillAgainstOthers : zMI := (yX0_fillAgainstOthers, cX0_fillAgainstOthers, 11, none)
abbrev mX0_hiddenTotal : zMI := (yX0_hiddenTotal, cX0_hiddenTotal, 11, (some .long))
abbrev mX0_bestPace : zMI := (yX0_bestPace, cX0_bestPace, 7, (some .int))
abbrev mX0_paceWeights : zMI := (yX0_paceWeights, cX0_paceWeights, 7, (some .int))
abbrev mX0_bestToLaugh : zMI := (yX0_bestToLaugh, cX0_bestToLaugh, 9, (some .int))
abbrev mX0_totalAmong : zMI := (yX0_totalAmong, cX0_totalAmong, 8, (some .long))
abbrev mX1_init : zMI := (yX1_init, cX1_init, 1, none)
abbrev mX1_take : zMI := (yX1_take, cX1_take, 6, (some .boolean))
abbrev mX1_fitLength : zMI := (yX1_fitLength, cX1_fitLength, 4, (some .boolean))
abbrev mX2_init : zMI := (yX2_init, cX2_init, 1, none)
abbrev mX2_add : zMI := (yX2_add, cX2_add, 2, none)
abbrev mX2_takeBack : zMI := (yX2_takeBack, cX2_takeBack, 2, none)
abbrev mX3_init : zMI := (yX3_init, cX3_init, 1, none)
abbrev mX3_write : zMI := (yX3_write, cX3_write, 6, none)
abbrev mX3_addByte : zMI := (yX3_addByte, cX3_addByte, 2, none)
abbrev mX3_withChecked : zMI := (yX3_withChecked, cX3_withChecked, 2, (some .int))
abbrev mX3_holderSize : zMI := (yX3_holderSize, cX3_holderSize, 1, (some .int))
abbrev mX3_isOf : zMI := (yX3_isOf, cX3_isOf, 5, (some .boolean))
abbrev mX3_isHolderAt : zMI := (yX3_isHolderAt, cX3_isHolderAt, 5, (some .boolean))
abbrev mX3_scoreAt : zMI := (yX3_scoreAt, cX3_scoreAt, 2, (some .int))
abbrev mX3_putInto : zMI := (yX3_putInto, cX3_putInto, 6, none)
abbrev mX4_init : zMI := (yX4_init, cX4_init, 3, none)
abbrev mX4_secondsHeld : zMI := (yX4_secondsHeld, cX4_secondsHeld, 5, (some .int))
abbrev mX4_allHold : zMI := (yX4_allHold, cX4_allHold, 4, none)
abbrev mX4_madeBits : zMI := (yX4_madeBits, cX4_madeBits, 5, (some .int))
abbrev mX4_worthAlone : zMI := (yX4_worthAlone, cX4_worthAlone, 5, (some .int))
abbrev mX4_worthAmong : zMI := (yX4_worthAmong, cX4_worthAmong, 4, (some .int))
abbrev mX4_tiredAlone : zMI := (yX4_tiredAlone, cX4_tiredAlone, 5, (some .int))
abbrev mX4_tiredAmong : zMI := (yX4_tiredAmong, cX4_tiredAmong, 4, (some .int))
abbrev mX4_tellAlone : zMI := (yX4_tellAlone, cX4_tellAlone, 5, none)
abbrev mX4_tellAmong : zMI := (yX4_tellAmong, cX4_tellAmong, 7, none)
abbrev mX5_init : zMI := (yX5_init, cX5_init, 8, none)
abbrev mX5_withLetter : zMI := (yX5_withLetter, cX5_withLetter, 3, (some .int))
abbrev mX5_letterOf : zMI := (yX5_letterOf, cX5_letterOf, 2, (some .int))
abbrev mX5_begin : zMI := (yX5_begin, cX5_begin, 2, none)
abbrev mX5_fail : zMI := (yX5_fail, cX5_fail, 3, none)
abbrev mX5_advance : zMI := (yX5_advance, cX5_advance, 1, none)
abbrev mX5_isSideBySide : zMI := (yX5_isSideBySide, cX5_isSideBySide, 2, (some .boolean))
abbrev mX5_skipBlanks : zMI := (yX5_skipBlanks, cX5_skipBlanks, 1, none)
abbrev mX5_scanWord : zMI := (yX5_scanWord, cX5_scanWord, 1, none)
abbrev mX5_scanNumber : zMI := (yX5_scanNumber, cX5_scanNumber, 1, none)
abbrev mX5_scanSign : zMI := (yX5_scanSign, cX5_scanSign, 2, none)
abbrev mX5_isLetter : zMI := (yX5_isLetter, cX5_isLetter, 1, (some .boolean))
abbrev mX5_isDigit : zMI := (yX5_isDigit, cX5_isDigit, 1, (some .boolean))
abbrev mX5_takeSign : zMI := (yX5_takeSign, cX5_takeSign, 2, none)
abbrev mX5_takeWord : zMI := (yX5_takeWord, cX5_takeWord, 2, none)
abbrev mX5_takeNumber : zMI := (yX5_takeNumber, cX5_takeNumber, 4, (some .int))
abbrev mX5_takeNewName : zMI := (yX5_takeNewName, cX5_takeNewName, 2, (some .int))
abbrev mX5_takeHolder : zMI := (yX5_takeHolder, cX5_takeHolder, 2, (some .int))
abbrev mX5_takeTunnel : zMI := (yX5_takeTunnel, cX5_takeTunnel, 2, (some .int))
abbrev mX5_takeKnownName : zMI := (yX5_takeKnownName, cX5_takeKnownName, 2, none)
abbrev mX5_isName : zMI := (yX5_isName, cX5_isName, 1, (some .boolean))
abbrev mX5_comesToStatement : zMI := (yX5_comesToStatement, cX5_comesToStatement, 1, (some .boolean))
abbrev mX5_readStatement : zMI := (yX5_readStatement, cX5_readStatement, 1, none)
abbrev mX5_readTunnel : zMI := (yX5_readTunnel, cX5_readTunnel, 3, none)
abbrev mX5_readLength : zMI := (yX5_readLength, cX5_readLength, 3, none)
abbrev mX5_readHolder : zMI := (yX5_readHolder, cX5_readHolder, 2, none)
abbrev mX5_readThinks : zMI := (yX5_readThinks, cX5_readThinks, 4, none)
abbrev mX5_readGives : zMI := (yX5_readGives, cX5_readGives, 3, none)
abbrev mX5_readTold : zMI := (yX5_readTold, cX5_readTold, 2, none)
abbrev mX5_readSum : zMI := (yX5_readSum, cX5_readSum, 4, none)
abbrev mX5_readProduct : zMI := (yX5_readProduct, cX5_readProduct, 4, none)
abbrev mX5_readPart : zMI := (yX5_readPart, cX5_readPart, 2, none)
abbrev mX5_factOf : zMI := (yX5_factOf, cX5_factOf, 1, (some .int))
abbrev mX5_readIf : zMI := (yX5_readIf, cX5_readIf, 4, none)
abbrev mX5_readPair : zMI := (yX5_readPair, cX5_readPair, 3, none)
abbrev mX5_isOpened : zMI := (yX5_isOpened, cX5_isOpened, 3, (some .boolean))
abbrev mX5_readTest : zMI := (yX5_readTest, cX5_readTest, 3, none)
abbrev mX5_readBoth : zMI := (yX5_readBoth, cX5_readBoth, 3, none)
abbrev mX5_readFact : zMI := (yX5_readFact, cX5_readFact, 2, none)
abbrev mX5_readNot : zMI := (yX5_readNot, cX5_readNot, 2, none)
abbrev mX5_readCompared : zMI := (yX5_readCompared, cX5_readCompared, 3, none)
abbrev mX6_init : zMI := (yX6_init, cX6_init, 1, none)
abbrev mX6_clear : zMI := (yX6_clear, cX6_clear, 1, none)
abbrev mX6_hasTunnel : zMI := (yX6_hasTunnel, cX6_hasTunnel, 2, (some .boolean))
abbrev mX6_hasHolder : zMI := (yX6_hasHolder, cX6_hasHolder, 2, (some .boolean))
abbrev mX6_hasBoth : zMI := (yX6_hasBoth, cX6_hasBoth, 3, (some .boolean))
abbrev mX6_lengthCount : zMI := (yX6_lengthCount, cX6_lengthCount, 2, (some .int))
abbrev mX6_lengthAt : zMI := (yX6_lengthAt, cX6_lengthAt, 3, (some .int))
abbrev mX6_weightAt : zMI := (yX6_weightAt, cX6_weightAt, 3, (some .int))
abbrev mX6_hasLength : zMI := (yX6_hasLength, cX6_hasLength, 4, (some .boolean))
abbrev mX6_allWeights : zMI := (yX6_allWeights, cX6_allWeights, 4, (some .int))
abbrev mX6_tunnelNamed : zMI := (yX6_tunnelNamed, cX6_tunnelNamed, 2, (some .int))
abbrev mX6_holderNamed : zMI := (yX6_holderNamed, cX6_holderNamed, 2, (some .int))
abbrev mX6_find : zMI := (yX6_find, cX6_find, 4, (some .int))
abbrev mX7_init : zMI := (yX7_init, cX7_init, 1, none)
abbrev mX7_begin : zMI := (yX7_begin, cX7_begin, 3, none)
abbrev mX7_nextTunnel : zMI := (yX7_nextTunnel, cX7_nextTunnel, 1, (some .int))
abbrev mX7_setNextTunnel : zMI := (yX7_setNextTunnel, cX7_setNextTunnel, 2, none)
abbrev mX7_breathOf : zMI := (yX7_breathOf, cX7_breathOf, 2, (some .int))
abbrev mX7_setBreath : zMI := (yX7_setBreath, cX7_setBreath, 3, none)
abbrev mX7_givesOf : zMI := (yX7_givesOf, cX7_givesOf, 2, (some .int))
abbrev mX7_setGives : zMI := (yX7_setGives, cX7_setGives, 3, none)
abbrev mX7_scoreOf : zMI := (yX7_scoreOf, cX7_scoreOf, 2, (some .int))
abbrev mX7_setScore : zMI := (yX7_setScore, cX7_setScore, 3, none)
abbrev mX7_addScore : zMI := (yX7_addScore, cX7_addScore, 3, none)
abbrev mX7_thinksOf : zMI := (yX7_thinksOf, cX7_thinksOf, 3, (some .int))
abbrev mX7_setThinks : zMI := (yX7_setThinks, cX7_setThinks, 4, none)
abbrev mX7_keep : zMI := (yX7_keep, cX7_keep, 5, none)
abbrev mX7_keepNothing : zMI := (yX7_keepNothing, cX7_keepNothing, 1, none)
abbrev mX7_keptCount : zMI := (yX7_keptCount, cX7_keptCount, 1, (some .int))
abbrev mX7_keptPart : zMI := (yX7_keptPart, cX7_keptPart, 4, (some .int))
abbrev mX8_init : zMI := (yX8_init, cX8_init, 1, none)
abbrev mX8_clear : zMI := (yX8_clear, cX8_clear, 1, none)
abbrev mX8_add : zMI := (yX8_add, cX8_add, 3, (some .int))
abbrev mX8_landHere : zMI := (yX8_landHere, cX8_landHere, 2, none)
abbrev mX8_isTold : zMI := (yX8_isTold, cX8_isTold, 2, (some .boolean))
abbrev mX8_valueOf : zMI := (yX8_valueOf, cX8_valueOf, 8, (some .int))
abbrev mX8_push : zMI := (yX8_push, cX8_push, 2, none)
abbrev mX8_pop : zMI := (yX8_pop, cX8_pop, 1, (some .int))
abbrev mX8_joined : zMI := (yX8_joined, cX8_joined, 3, (some .long))
abbrev mX8_bounded : zMI := (yX8_bounded, cX8_bounded, 2, (some .int))
abbrev mX9_init : zMI := (yX9_init, cX9_init, 1, none)
abbrev mX9_addNumber : zMI := (yX9_addNumber, cX9_addNumber, 3, none)
abbrev mX9_byteAt : zMI := (yX9_byteAt, cX9_byteAt, 2, (some .int))
abbrev mX10_init : zMI := (yX10_init, cX10_init, 1, none)
abbrev mX10_feed : zMI := (yX10_feed, cX10_feed, 6, (some .int))
abbrev mX10_end : zMI := (yX10_end, cX10_end, 2, (some .boolean))
abbrev mX10_road : zMI := (yX10_road, cX10_road, 2, (some .int))
abbrev mX10_fault : zMI := (yX10_fault, cX10_fault, 2, (some .int))
abbrev mX10_has : zMI := (yX10_has, cX10_has, 2, (some .int))
abbrev mX10_letter : zMI := (yX10_letter, cX10_letter, 4, (some .int))
abbrev mX10_tunnel : zMI := (yX10_tunnel, cX10_tunnel, 5, (some .int))
abbrev mX10_holder : zMI := (yX10_holder, cX10_holder, 4, (some .int))
abbrev mX10_score : zMI := (yX10_score, cX10_score, 2, (some .int))
abbrev mX10_likely : zMI := (yX10_likely, cX10_likely, 6, (some .int))
abbrev mX10_holds : zMI := (yX10_holds, cX10_holds, 4, (some .int))
abbrev mX10_made : zMI := (yX10_made, cX10_made, 7, (some .int))
abbrev mX10_worth : zMI := (yX10_worth, cX10_worth, 4, (some .int))
abbrev mX10_tired : zMI := (yX10_tired, cX10_tired, 5, (some .int))
abbrev mX10_alone : zMI := (yX10_alone, cX10_alone, 4, (some .int))
abbrev mX10_on : zMI := (yX10_on, cX10_on, 5, (some .int))
abbrev mX10_rest : zMI := (yX10_rest, cX10_rest, 3, (some .int))
abbrev mX10_hidden : zMI := (yX10_hidden, cX10_hidden, 6, (some .int))
abbrev mX10_pace : zMI := (yX10_pace, cX10_pace, 6, (some .int))
abbrev mX10_whom : zMI := (yX10_whom, cX10_whom, 5, (some .int))
abbrev mX10_faces : zMI := (yX10_faces, cX10_faces, 3, (some .int))
abbrev mX10_fit : zMI := (yX10_fit, cX10_fit, 6, (some .int))
abbrev mX10_drive : zMI := (yX10_drive, cX10_drive, 4, (some .int))
abbrev mX10_pause : zMI := (yX10_pause, cX10_pause, 5, (some .int))
abbrev mX10_believe : zMI := (yX10_believe, cX10_believe, 5, (some .int))
abbrev mX10_give : zMI := (yX10_give, cX10_give, 4, (some .int))
abbrev mX10_undo : zMI := (yX10_undo, cX10_undo, 1, (some .boolean))
abbrev mX10_seed : zMI := (yX10_seed, cX10_seed, 2, (some .boolean))
abbrev mX10_kept : zMI := (yX10_kept, cX10_kept, 3, (some .int))
abbrev mX10_image : zMI := (yX10_image, cX10_image, 1, (some .int))
abbrev mX10_octet : zMI := (yX10_octet, cX10_octet, 2, (some .int))
abbrev mX10_goOn : zMI := (yX10_goOn, cX10_goOn, 2, (some .boolean))
abbrev mX10_status : zMI := (yX10_status, cX10_status, 2, (some .int))
abbrev mX10_refuse : zMI := (yX10_refuse, cX10_refuse, 2, (some .int))
abbrev mX10_beginAct : zMI := (yX10_beginAct, cX10_beginAct, 1, none)
abbrev mX10_driveThrough : zMI := (yX10_driveThrough, cX10_driveThrough, 7, (some .int))
abbrev mX10_drawLength : zMI := (yX10_drawLength, cX10_drawLength, 6, (some .int))
abbrev mX10_drawHeld : zMI := (yX10_drawHeld, cX10_drawHeld, 4, (some .int))
abbrev mX10_draw : zMI := (yX10_draw, cX10_draw, 2, (some .int))
abbrev mX10_isLength : zMI := (yX10_isLength, cX10_isLength, 1, (some .boolean))
abbrev mX10_isSecond : zMI := (yX10_isSecond, cX10_isSecond, 1, (some .boolean))
abbrev mX10_thousandths : zMI := (yX10_thousandths, cX10_thousandths, 4, (some .int))
abbrev mX10_within : zMI := (yX10_within, cX10_within, 3, (some .int))
abbrev mX10_valueAt : zMI := (yX10_valueAt, cX10_valueAt, 2, (some .int))
abbrev mX10_valueAt_ : zMI := (yX10_valueAt_, cX10_valueAt_, 2, (some .long))
abbrev mX10_setAt : zMI := (yX10_setAt, cX10_setAt, 3, none)
abbrev mX10_setAt_ : zMI := (yX10_setAt_, cX10_setAt_, 4, none)
abbrev mX11_init : zMI := (yX11_init, cX11_init, 1, none)
abbrev mX11_is : zMI := (yX11_is, cX11_is, 3, (some .boolean))
abbrev mX11_put : zMI := (yX11_put, cX11_put, 3, none)
abbrev mX11_feed : zMI := (yX11_feed, cX11_feed, 6, (some .int))
abbrev mX11_end : zMI := (yX11_end, cX11_end, 2, (some .boolean))
abbrev mX11_blame : zMI := (yX11_blame, cX11_blame, 3, none)
abbrev mX11_isLetter : zMI := (yX11_isLetter, cX11_isLetter, 1, (some .boolean))
abbrev mX11_isDigit : zMI := (yX11_isDigit, cX11_isDigit, 1, (some .boolean))
abbrev mX11_lex : zMI := (yX11_lex, cX11_lex, 1, none)
abbrev mX11_ahead : zMI := (yX11_ahead, cX11_ahead, 6, none)
abbrev mX11_isSign : zMI := (yX11_isSign, cX11_isSign, 2, (some .boolean))
abbrev mX11_isWord : zMI := (yX11_isWord, cX11_isWord, 3, (some .boolean))
abbrev mX11_must : zMI := (yX11_must, cX11_must, 2, none)
abbrev mX11_isOwn : zMI := (yX11_isOwn, cX11_isOwn, 3, (some .boolean))
abbrev mX11_manyOf : zMI := (yX11_manyOf, cX11_manyOf, 3, (some .int))
abbrev mX11_nameOf : zMI := (yX11_nameOf, cX11_nameOf, 4, (some .long))
abbrev mX11_named : zMI := (yX11_named, cX11_named, 5, (some .int))
abbrev mX11_lookedAt : zMI := (yX11_lookedAt, cX11_lookedAt, 3, (some .int))
abbrev mX11_number : zMI := (yX11_number, cX11_number, 4, (some .int))
abbrev mX11_add : zMI := (yX11_add, cX11_add, 3, none)
abbrev mX11_rank : zMI := (yX11_rank, cX11_rank, 1, (some .int))
abbrev mX11_joins : zMI := (yX11_joins, cX11_joins, 2, none)
abbrev mX11_holdsBack : zMI := (yX11_holdsBack, cX11_holdsBack, 2, none)
abbrev mX11_pushes : zMI := (yX11_pushes, cX11_pushes, 2, none)
abbrev mX11_opens : zMI := (yX11_opens, cX11_opens, 2, none)
abbrev mX11_isTest : zMI := (yX11_isTest, cX11_isTest, 1, (some .boolean))
abbrev mX11_operand : zMI := (yX11_operand, cX11_operand, 4, (some .boolean))
abbrev mX11_goesOn : zMI := (yX11_goesOn, cX11_goesOn, 5, (some .boolean))
abbrev mX11_reads : zMI := (yX11_reads, cX11_reads, 3, none)
abbrev mX11_counts : zMI := (yX11_counts, cX11_counts, 2, (some .boolean))
abbrev mX11_must_ : zMI := (yX11_must_, cX11_must_, 3, none)
abbrev mX11_fresh : zMI := (yX11_fresh, cX11_fresh, 3, (some .long))
abbrev mX11_asked : zMI := (yX11_asked, cX11_asked, 3, (some .int))
abbrev mX11_tunnelling : zMI := (yX11_tunnelling, cX11_tunnelling, 6, none)
abbrev mX11_holdering : zMI := (yX11_holdering, cX11_holdering, 3, none)
abbrev mX11_thinking : zMI := (yX11_thinking, cX11_thinking, 4, none)
abbrev mX11_giving : zMI := (yX11_giving, cX11_giving, 3, none)
abbrev mX11_worthing : zMI := (yX11_worthing, cX11_worthing, 1, none)
abbrev mX11_tiring : zMI := (yX11_tiring, cX11_tiring, 1, none)
abbrev mX11_telling : zMI := (yX11_telling, cX11_telling, 3, none)
abbrev mX11_statement : zMI := (yX11_statement, cX11_statement, 1, none)
abbrev mX11_finishes : zMI := (yX11_finishes, cX11_finishes, 3, none)
abbrev mX11_road : zMI := (yX11_road, cX11_road, 2, (some .int))
abbrev mX11_fault : zMI := (yX11_fault, cX11_fault, 2, (some .int))
abbrev mX11_refuses : zMI := (yX11_refuses, cX11_refuses, 2, (some .int))
abbrev mX11_status : zMI := (yX11_status, cX11_status, 2, (some .int))
abbrev mX11_isTunnel : zMI := (yX11_isTunnel, cX11_isTunnel, 2, (some .boolean))
abbrev mX11_isHolder : zMI := (yX11_isHolder, cX11_isHolder, 2, (some .boolean))
abbrev mX11_lengthsOf : zMI := (yX11_lengthsOf, cX11_lengthsOf, 2, (some .int))
abbrev mX11_lengthAt : zMI := (yX11_lengthAt, cX11_lengthAt, 3, (some .int))
abbrev mX11_weightAt : zMI := (yX11_weightAt, cX11_weightAt, 3, (some .int))
abbrev mX11_weights : zMI := (yX11_weights, cX11_weights, 4, (some .int))
abbrev mX11_copies : zMI := (yX11_copies, cX11_copies, 4, none)
abbrev mX11_begin : zMI := (yX11_begin, cX11_begin, 2, none)
abbrev mX11_ring : zMI := (yX11_ring, cX11_ring, 2, (some .int))
abbrev mX11_keeps : zMI := (yX11_keeps, cX11_keeps, 1, none)
abbrev mX11_undo : zMI := (yX11_undo, cX11_undo, 1, (some .boolean))
abbrev mX11_part : zMI := (yX11_part, cX11_part, 3, (some .long))
abbrev mX11_held : zMI := (yX11_held, cX11_held, 2, (some .long))
abbrev mX11_floor : zMI := (yX11_floor, cX11_floor, 6, (some .long))
abbrev mX11_two : zMI := (yX11_two, cX11_two, 5, (some .long))
abbrev mX11_reckons : zMI := (yX11_reckons, cX11_reckons, 6, (some .long))
abbrev mX11_between : zMI := (yX11_between, cX11_between, 4, (some .int))
abbrev mX11_asks : zMI := (yX11_asks, cX11_asks, 7, none)
abbrev mX11_worthNow : zMI := (yX11_worthNow, cX11_worthNow, 1, (some .int))
abbrev mX11_breathNow : zMI := (yX11_breathNow, cX11_breathNow, 1, (some .int))
abbrev mX11_worthAlone : zMI := (yX11_worthAlone, cX11_worthAlone, 5, (some .int))
abbrev mX11_lesser : zMI := (yX11_lesser, cX11_lesser, 2, (some .int))
abbrev mX11_holdOf : zMI := (yX11_holdOf, cX11_holdOf, 5, (some .int))
abbrev mX11_allHold : zMI := (yX11_allHold, cX11_allHold, 4, none)
abbrev mX11_asksRow : zMI := (yX11_asksRow, cX11_asksRow, 7, none)
abbrev mX11_worthRow : zMI := (yX11_worthRow, cX11_worthRow, 4, (some .int))
abbrev mX11_has : zMI := (yX11_has, cX11_has, 2, (some .int))
abbrev mX11_letter : zMI := (yX11_letter, cX11_letter, 9, (some .int))
abbrev mX11_tunnel : zMI := (yX11_tunnel, cX11_tunnel, 3, (some .int))
abbrev mX11_holder : zMI := (yX11_holder, cX11_holder, 3, (some .int))
abbrev mX11_score : zMI := (yX11_score, cX11_score, 2, (some .int))
abbrev mX11_likely : zMI := (yX11_likely, cX11_likely, 5, (some .int))
abbrev mX11_canBe : zMI := (yX11_canBe, cX11_canBe, 4, (some .boolean))
abbrev mX11_holds : zMI := (yX11_holds, cX11_holds, 4, (some .int))
abbrev mX11_made : zMI := (yX11_made, cX11_made, 5, (some .int))
abbrev mX11_worth : zMI := (yX11_worth, cX11_worth, 4, (some .int))
abbrev mX11_tired : zMI := (yX11_tired, cX11_tired, 5, (some .int))
abbrev mX11_thousandths : zMI := (yX11_thousandths, cX11_thousandths, 5, (some .int))
abbrev mX11_findsAlone : zMI := (yX11_findsAlone, cX11_findsAlone, 7, none)
abbrev mX11_alone : zMI := (yX11_alone, cX11_alone, 4, (some .int))
abbrev mX11_findsOn : zMI := (yX11_findsOn, cX11_findsOn, 13, none)
abbrev mX11_on : zMI := (yX11_on, cX11_on, 9, (some .int))
abbrev mX11_worthBy : zMI := (yX11_worthBy, cX11_worthBy, 9, (some .long))
abbrev mX11_takes : zMI := (yX11_takes, cX11_takes, 9, (some .boolean))
abbrev mX11_rest : zMI := (yX11_rest, cX11_rest, 6, (some .int))
abbrev mX11_hidden : zMI := (yX11_hidden, cX11_hidden, 8, (some .int))
abbrev mX11_madeBy : zMI := (yX11_madeBy, cX11_madeBy, 5, (some .int))
abbrev mX11_pace : zMI := (yX11_pace, cX11_pace, 10, (some .int))
abbrev mX11_whom : zMI := (yX11_whom, cX11_whom, 11, (some .int))
abbrev mX11_faces : zMI := (yX11_faces, cX11_faces, 5, (some .int))
abbrev mX11_isByFaces : zMI := (yX11_isByFaces, cX11_isByFaces, 3, (some .boolean))
abbrev mX11_fit : zMI := (yX11_fit, cX11_fit, 6, (some .int))
abbrev mX11_draw : zMI := (yX11_draw, cX11_draw, 2, (some .int))
abbrev mX11_writesDown : zMI := (yX11_writesDown, cX11_writesDown, 5, none)
abbrev mX11_laughing : zMI := (yX11_laughing, cX11_laughing, 5, (some .int))
abbrev mX11_driven : zMI := (yX11_driven, cX11_driven, 7, (some .int))
abbrev mX11_drive : zMI := (yX11_drive, cX11_drive, 4, (some .int))
abbrev mX11_pause : zMI := (yX11_pause, cX11_pause, 3, (some .int))
abbrev mX11_believe : zMI := (yX11_believe, cX11_believe, 5, (some .int))
abbrev mX11_give : zMI := (yX11_give, cX11_give, 4, (some .int))
abbrev mX11_seed : zMI := (yX11_seed, cX11_seed, 2, (some .boolean))
abbrev mX11_kept : zMI := (yX11_kept, cX11_kept, 3, (some .int))
abbrev mX11_writes : zMI := (yX11_writes, cX11_writes, 2, none)
abbrev mX11_image : zMI := (yX11_image, cX11_image, 4, (some .int))
abbrev mX11_octet : zMI := (yX11_octet, cX11_octet, 2, (some .int))
abbrev mX11_holderOn : zMI := (yX11_holderOn, cX11_holderOn, 5, (some .boolean))
abbrev mX11_comesOn : zMI := (yX11_comesOn, cX11_comesOn, 5, (some .boolean))
abbrev mX11_goOn : zMI := (yX11_goOn, cX11_goOn, 2, (some .boolean))
abbrev mJ11_isValidCodePoint_9a6ad : zMI := (yJ11_isValidCodePoint_9a6ad, cJ11_isValidCodePoint_9a6ad, 2, (some .boolean))
abbrev mJ11_highSurrogate_5068e : zMI := (yJ11_highSurrogate_5068e, cJ11_highSurrogate_5068e, 1, (some .char))
abbrev mJ11_lowSurrogate_5068e : zMI := (yJ11_lowSurrogate_5068e, cJ11_lowSurrogate_5068e, 1, (some .char))
abbrev mJ6_bitCount_0f7a4 : zMI := (yJ6_bitCount_0f7a4, cJ6_bitCount_0f7a4, 1, (some .int))
abbrev mJ9_floorDiv_7cf53 : zMI := (yJ9_floorDiv_7cf53, cJ9_floorDiv_7cf53, 3, (some .int))
abbrev mJ9_floorDiv_f86c9 : zMI := (yJ9_floorDiv_f86c9, cJ9_floorDiv_f86c9, 6, (some .long))
abbrev mJ9_floorMod_7cf53 : zMI := (yJ9_floorMod_7cf53, cJ9_floorMod_7cf53, 3, (some .int))
abbrev mJ9_max_7cf53 : zMI := (yJ9_max_7cf53, cJ9_max_7cf53, 2, (some .int))
abbrev mJ9_min_7cf53 : zMI := (yJ9_min_7cf53, cJ9_min_7cf53, 2, (some .int))
abbrev mJ0_length_8abf5 : zMI := (yJ0_length_8abf5, cJ0_length_8abf5, 1, (some .int))
abbrev mJ0_charAt_5068e : zMI := (yJ0_charAt_5068e, cJ0_charAt_5068e, 2, (some .char))
abbrev mJ0_indexOf_0f7a4 : zMI := (yJ0_indexOf_0f7a4, cJ0_indexOf_0f7a4, 2, (some .int))
abbrev mJ0_indexOf_7cf53 : zMI := (yJ0_indexOf_7cf53, cJ0_indexOf_7cf53, 3, (some .int))
abbrev mJ0_coder_7d493 : zMI := (yJ0_coder_7d493, cJ0_coder_7d493, 1, (some .byte))
abbrev mJ0_isLatin1_aae02 : zMI := (yJ0_isLatin1_aae02, cJ0_isLatin1_aae02, 1, (some .boolean))
abbrev mJ0_checkIndex_df160 : zMI := (yJ0_checkIndex_df160, cJ0_checkIndex_df160, 2, none)
abbrev mJ0_checkBoundsBeginEnd_23922 : zMI := (yJ0_checkBoundsBeginEnd_23922, cJ0_checkBoundsBeginEnd_23922, 3, none)
abbrev mJ1_charAt_3b067 : zMI := (yJ1_charAt_3b067, cJ1_charAt_3b067, 2, (some .char))
abbrev mJ1_canEncode_9a6ad : zMI := (yJ1_canEncode_9a6ad, cJ1_canEncode_9a6ad, 1, (some .boolean))
abbrev mJ1_indexOf_4cfef : zMI := (yJ1_indexOf_4cfef, cJ1_indexOf_4cfef, 4, (some .int))
abbrev mJ1_indexOfChar_4cfef : zMI := (yJ1_indexOfChar_4cfef, cJ1_indexOfChar_4cfef, 6, (some .int))
abbrev mJ2_getChar_3b067 : zMI := (yJ2_getChar_3b067, cJ2_getChar_3b067, 2, (some .char))
abbrev mJ2_length_9d52b : zMI := (yJ2_length_9d52b, cJ2_length_9d52b, 1, (some .int))
abbrev mJ2_indexOf_4cfef : zMI := (yJ2_indexOf_4cfef, cJ2_indexOf_4cfef, 4, (some .int))
abbrev mJ2_indexOfChar_4cfef : zMI := (yJ2_indexOfChar_4cfef, cJ2_indexOfChar_4cfef, 4, (some .int))
abbrev mJ2_indexOfCharUnsafe_4cfef : zMI := (yJ2_indexOfCharUnsafe_4cfef, cJ2_indexOfCharUnsafe_4cfef, 5, (some .int))
abbrev mJ2_indexOfSupplementary_4cfef : zMI := (yJ2_indexOfSupplementary_4cfef, cJ2_indexOfSupplementary_4cfef, 7, (some .int))
abbrev mJ2_charAt_3b067 : zMI := (yJ2_charAt_3b067, cJ2_charAt_3b067, 2, (some .char))
abbrev mJ2_checkIndex_2214a : zMI := (yJ2_checkIndex_2214a, cJ2_checkIndex_2214a, 2, none)
abbrev mJ2_checkBoundsBeginEnd_d044e : zMI := (yJ2_checkBoundsBeginEnd_d044e, cJ2_checkBoundsBeginEnd_d044e, 3, none)
abbrev mJ7_fill_d0a16 : zMI := (yJ7_fill_d0a16, cJ7_fill_d0a16, 5, none)
abbrev mJ7_fill_53178 : zMI := (yJ7_fill_53178, cJ7_fill_53178, 4, none)
abbrev mJ3_checkIndex_8e157 : zMI := (yJ3_checkIndex_8e157, cJ3_checkIndex_8e157, 3, (some .int))
abbrev mJ3_checkFromToIndex_8c36e : zMI := (yJ3_checkFromToIndex_8c36e, cJ3_checkFromToIndex_8c36e, 4, (some .int))
theorem moX10_3 : Cond.methodLink RX10 3 Lib.objectInit ∈ TB ∧ Cond.instanceMethod Lib.objectInit ∈ TB ∧ Cond.code Lib.objectInit ⟨#[0xb1]⟩ 1 none ∈ TB := ⟨tb1 27 rfl rfl, tb1 28 rfl rfl, tb1 29 rfl rfl⟩
theorem miX10_11 : zMi RX10 11 mX9_init 0 := ⟨Or.inr ⟨"BreathRoad", List.mem_of_getElem? (i := 0) rfl⟩, rfl, rfl, tb1 33 rfl rfl, tb1 2 rfl rfl, tb1 34 rfl rfl, ⟨by decide +kernel, by decide +kernel, by decide +kernel⟩, by decide⟩
theorem miX10_18 : zMi RX10 18 mX7_init 0 := ⟨Or.inr ⟨"BreathRoad", List.mem_of_getElem? (i := 1) rfl⟩, rfl, rfl, tb1 51 rfl rfl, tb1 3 rfl rfl, tb1 52 rfl rfl, ⟨by decide +kernel, by decide +kernel, by decide +kernel⟩, by decide⟩
theorem miX10_25 : zMi RX10 25 mX2_init 0 := ⟨Or.inr ⟨"BreathRoad", List.mem_of_getElem? (i := 2) rfl⟩, rfl, rfl, tb1 63 rfl rfl, tb1 4 rfl rfl, tb1 64 rfl rfl, ⟨by decide +kernel, by decide +kernel, by decide +kernel⟩, by decide⟩
theorem miX10_34 : zMi RX10 34 mX6_init 0 := ⟨Or.inr ⟨"BreathRoad", List.mem_of_getElem? (i := 3) rfl⟩, rfl, rfl, tb1 82 rfl rfl, tb1 6 rfl rfl, tb1 83 rfl rfl, ⟨by decide +kernel, by decide +kernel, by decide +kernel⟩, by decide⟩
theorem miX10_35 : zMi RX10 35 mX4_init 2 := ⟨Or.inl (tb1 200 rfl rfl), rfl, rfl, tb1 201 rfl rfl, tb1 5 rfl rfl, tb1 202 rfl rfl, ⟨by decide +kernel, by decide +kernel, by decide +kernel⟩, by decide⟩
theorem miX10_44 : zMi RX10 44 mX0_init 1 := ⟨Or.inl (tb1 224 rfl rfl), rfl, rfl, tb1 225 rfl rfl, tb1 8 rfl rfl, tb1 226 rfl rfl, ⟨by decide +kernel, by decide +kernel, by decide +kernel⟩, by decide⟩
theorem miX10_53 : zMi RX10 53 mX1_init 0 := ⟨Or.inr ⟨"BreathRoad", List.mem_of_getElem? (i := 5) rfl⟩, rfl, rfl, tb2 37 rfl rfl, tb1 9 rfl rfl, tb2 38 rfl rfl, ⟨by decide +kernel, by decide +kernel, by decide +kernel⟩, by decide⟩
theorem miX10_60 : zMi RX10 60 mX3_init 0 := ⟨Or.inr ⟨"BreathRoad", List.mem_of_getElem? (i := 6) rfl⟩, rfl, rfl, tb2 58 rfl rfl, tb1 10 rfl rfl, tb2 59 rfl rfl, ⟨by decide +kernel, by decide +kernel, by decide +kernel⟩, by decide⟩
theorem miX10_75 : zMi RX10 75 mX5_init 2 := ⟨Or.inl (tb2 72 rfl rfl), rfl, rfl, tb2 73 rfl rfl, tb1 11 rfl rfl, tb2 74 rfl rfl, ⟨by decide +kernel, by decide +kernel, by decide +kernel⟩, by decide⟩
theorem mwX10_89 : zMv RX10 89 mX10_refuse 1 := ⟨tb2 202 rfl rfl, tb2 204 rfl rfl, tb_pv (q := (yX10_refuse, 11)) (List.mem_of_getElem? (i := 0) (by decide +kernel)), tb1 1 rfl rfl, tb2 205 rfl rfl, ⟨by decide +kernel, by decide +kernel, by decide +kernel⟩, by decide⟩
theorem mwX10_93 : zMv RX10 93 mX9_addNumber 1 := ⟨tb2 206 rfl rfl, tb2 207 rfl rfl, tb2 208 rfl rfl, tb1 2 rfl rfl, tb2 209 rfl rfl, ⟨by decide +kernel, by decide +kernel, by decide +kernel⟩, by decide⟩
theorem mwX10_97 : zMv RX10 97 mX5_begin 1 := ⟨tb2 218 rfl rfl, tb2 219 rfl rfl, tb2 220 rfl rfl, tb1 11 rfl rfl, tb2 221 rfl rfl, ⟨by decide +kernel, by decide +kernel, by decide +kernel⟩, by decide⟩
theorem mwX10_101 : zMv RX10 101 mX5_comesToStatement 0 := ⟨tb2 234 rfl rfl, tb2 235 rfl rfl, tb2 236 rfl rfl, tb1 11 rfl rfl, tb2 237 rfl rfl, ⟨by decide +kernel, by decide +kernel, by decide +kernel⟩, by decide⟩
theorem mwX10_105 : zMv RX10 105 mX5_readStatement 0 := ⟨tb3 6 rfl rfl, tb3 7 rfl rfl, tb3 8 rfl rfl, tb1 11 rfl rfl, tb3 9 rfl rfl, ⟨by decide +kernel, by decide +kernel, by decide +kernel⟩, by decide⟩
theorem mwX10_114 : zMv RX10 114 mX7_begin 1 := ⟨tb4 20 rfl rfl, tb4 21 rfl rfl, tb4 22 rfl rfl, tb1 3 rfl rfl, tb4 23 rfl rfl, ⟨by decide +kernel, by decide +kernel, by decide +kernel⟩, by decide⟩
theorem mwX10_119 : zMv RX10 119 mX0_forget 0 := ⟨tb4 27 rfl rfl, tb4 28 rfl rfl, tb4 29 rfl rfl, tb1 8 rfl rfl, tb4 30 rfl rfl, ⟨by decide +kernel, by decide +kernel, by decide +kernel⟩, by decide⟩
theorem mwX10_140 : zMv RX10 140 mX7_nextTunnel 0 := ⟨tb4 39 rfl rfl, tb4 40 rfl rfl, tb4 41 rfl rfl, tb1 3 rfl rfl, tb4 42 rfl rfl, ⟨by decide +kernel, by decide +kernel, by decide +kernel⟩, by decide⟩
theorem mwX10_144 : zMv RX10 144 mX7_keptCount 0 := ⟨tb4 43 rfl rfl, tb4 44 rfl rfl, tb4 45 rfl rfl, tb1 3 rfl rfl, tb4 46 rfl rfl, ⟨by decide +kernel, by decide +kernel, by decide +kernel⟩, by decide⟩
theorem mwX10_147 : zMv RX10 147 mX6_hasTunnel 1 := ⟨tb4 52 rfl rfl, tb3 184 rfl rfl, tb3 185 rfl rfl, tb1 6 rfl rfl, tb3 186 rfl rfl, ⟨by decide +kernel, by decide +kernel, by decide +kernel⟩, by decide⟩
theorem mwX10_154 : zMs RX10 154 mX10_valueAt 2 := ⟨tb4 53 rfl rfl, tb3 144 rfl rfl, tb1 1 rfl rfl, tb3 145 rfl rfl, ⟨by decide +kernel, by decide +kernel, by decide +kernel⟩, by decide⟩
theorem mwX10_158 : zMs RX10 158 mX5_letterOf 2 := ⟨tb4 54 rfl rfl, tb4 55 rfl rfl, tb1 11 rfl rfl, tb4 56 rfl rfl, ⟨by decide +kernel, by decide +kernel, by decide +kernel⟩, by decide⟩
theorem mwX10_162 : zMv RX10 162 mX6_hasHolder 1 := ⟨tb4 57 rfl rfl, tb3 180 rfl rfl, tb3 181 rfl rfl, tb1 6 rfl rfl, tb3 182 rfl rfl, ⟨by decide +kernel, by decide +kernel, by decide +kernel⟩, by decide⟩
theorem mwX10_168 : zMv RX10 168 mX6_lengthCount 1 := ⟨tb4 62 rfl rfl, tb3 140 rfl rfl, tb3 141 rfl rfl, tb1 6 rfl rfl, tb3 142 rfl rfl, ⟨by decide +kernel, by decide +kernel, by decide +kernel⟩, by decide⟩
theorem mwX10_171 : zMv RX10 171 mX6_lengthAt 2 := ⟨tb4 63 rfl rfl, tb3 152 rfl rfl, tb3 153 rfl rfl, tb1 6 rfl rfl, tb3 154 rfl rfl, ⟨by decide +kernel, by decide +kernel, by decide +kernel⟩, by decide⟩
theorem mwX10_174 : zMv RX10 174 mX6_weightAt 2 := ⟨tb4 64 rfl rfl, tb4 65 rfl rfl, tb4 66 rfl rfl, tb1 6 rfl rfl, tb4 67 rfl rfl, ⟨by decide +kernel, by decide +kernel, by decide +kernel⟩, by decide⟩
theorem mwX10_180 : zMv RX10 180 mX6_allWeights 1 := ⟨tb4 68 rfl rfl, tb4 69 rfl rfl, tb4 70 rfl rfl, tb1 6 rfl rfl, tb4 71 rfl rfl, ⟨by decide +kernel, by decide +kernel, by decide +kernel⟩, by decide⟩
theorem mwX10_183 : zMv RX10 183 mX7_thinksOf 2 := ⟨tb4 77 rfl rfl, tb4 78 rfl rfl, tb4 79 rfl rfl, tb1 3 rfl rfl, tb4 80 rfl rfl, ⟨by decide +kernel, by decide +kernel, by decide +kernel⟩, by decide⟩
theorem mwX10_186 : zMv RX10 186 mX7_breathOf 1 := ⟨tb4 82 rfl rfl, tb4 83 rfl rfl, tb4 84 rfl rfl, tb1 3 rfl rfl, tb4 85 rfl rfl, ⟨by decide +kernel, by decide +kernel, by decide +kernel⟩, by decide⟩
theorem mwX10_195 : zMv RX10 195 mX7_givesOf 1 := ⟨tb4 86 rfl rfl, tb4 87 rfl rfl, tb4 88 rfl rfl, tb1 3 rfl rfl, tb4 89 rfl rfl, ⟨by decide +kernel, by decide +kernel, by decide +kernel⟩, by decide⟩
theorem mwX10_198 : zMv RX10 198 mX7_scoreOf 1 := ⟨tb4 94 rfl rfl, tb4 95 rfl rfl, tb4 96 rfl rfl, tb1 3 rfl rfl, tb4 97 rfl rfl, ⟨by decide +kernel, by decide +kernel, by decide +kernel⟩, by decide⟩
theorem mwX10_202 : zMs RX10 202 mX10_thousandths 2 := ⟨tb4 103 rfl rfl, tb4 104 rfl rfl, tb1 1 rfl rfl, tb4 105 rfl rfl, ⟨by decide +kernel, by decide +kernel, by decide +kernel⟩, by decide⟩
theorem mwX10_206 : zMv RX10 206 mX6_hasBoth 2 := ⟨tb4 114 rfl rfl, tb3 176 rfl rfl, tb3 177 rfl rfl, tb1 6 rfl rfl, tb3 178 rfl rfl, ⟨by decide +kernel, by decide +kernel, by decide +kernel⟩, by decide⟩
theorem mwX10_210 : zMs RX10 210 mX10_isLength 1 := ⟨tb4 115 rfl rfl, tb4 116 rfl rfl, tb1 1 rfl rfl, tb4 117 rfl rfl, ⟨by decide +kernel, by decide +kernel, by decide +kernel⟩, by decide⟩
theorem mwX10_213 : zMv RX10 213 mX4_secondsHeld 3 := ⟨tb4 118 rfl rfl, tb4 119 rfl rfl, tb4 120 rfl rfl, tb1 5 rfl rfl, tb4 121 rfl rfl, ⟨by decide +kernel, by decide +kernel, by decide +kernel⟩, by decide⟩
theorem mwX10_217 : zMv RX10 217 mX4_allHold 2 := ⟨tb4 134 rfl rfl, tb4 135 rfl rfl, tb4 136 rfl rfl, tb1 5 rfl rfl, tb4 137 rfl rfl, ⟨by decide +kernel, by decide +kernel, by decide +kernel⟩, by decide⟩
theorem mwX10_221 : zMv RX10 221 mX4_worthAmong 3 := ⟨tb4 140 rfl rfl, tb4 141 rfl rfl, tb4 142 rfl rfl, tb1 5 rfl rfl, tb4 143 rfl rfl, ⟨by decide +kernel, by decide +kernel, by decide +kernel⟩, by decide⟩
theorem mwX10_224 : zMv RX10 224 mX4_tiredAlone 4 := ⟨tb4 192 rfl rfl, tb4 193 rfl rfl, tb4 194 rfl rfl, tb1 5 rfl rfl, tb4 195 rfl rfl, ⟨by decide +kernel, by decide +kernel, by decide +kernel⟩, by decide⟩
theorem mwX10_228 : zMv RX10 228 mX0_plan 3 := ⟨tb4 201 rfl rfl, tb4 202 rfl rfl, tb4 203 rfl rfl, tb1 8 rfl rfl, tb4 204 rfl rfl, ⟨by decide +kernel, by decide +kernel, by decide +kernel⟩, by decide⟩
theorem mwX10_242 : zMv RX10 242 mX0_settle 1 := ⟨tb5 17 rfl rfl, tb5 18 rfl rfl, tb5 19 rfl rfl, tb1 8 rfl rfl, tb5 20 rfl rfl, ⟨by decide +kernel, by decide +kernel, by decide +kernel⟩, by decide⟩
theorem mwX10_251 : zMv RX10 251 mX0_hiddenTotal 2 := ⟨tb5 37 rfl rfl, tb5 38 rfl rfl, tb5 39 rfl rfl, tb1 8 rfl rfl, tb5 40 rfl rfl, ⟨by decide +kernel, by decide +kernel, by decide +kernel⟩, by decide⟩
theorem mwX10_257 : zMv RX10 257 mX0_bestPace 2 := ⟨tb5 47 rfl rfl, tb5 48 rfl rfl, tb5 49 rfl rfl, tb1 8 rfl rfl, tb5 50 rfl rfl, ⟨by decide +kernel, by decide +kernel, by decide +kernel⟩, by decide⟩
theorem mwX10_260 : zMv RX10 260 mX0_paceWeights 3 := ⟨tb5 60 rfl rfl, tb5 52 rfl rfl, tb5 53 rfl rfl, tb1 8 rfl rfl, tb5 54 rfl rfl, ⟨by decide +kernel, by decide +kernel, by decide +kernel⟩, by decide⟩
theorem mwX10_263 : zMv RX10 263 mX0_bestToLaugh 2 := ⟨tb5 65 rfl rfl, tb5 66 rfl rfl, tb5 67 rfl rfl, tb1 8 rfl rfl, tb5 68 rfl rfl, ⟨by decide +kernel, by decide +kernel, by decide +kernel⟩, by decide⟩
theorem mwX10_266 : zMv RX10 266 mX0_totalAmong 3 := ⟨tb5 75 rfl rfl, tb5 70 rfl rfl, tb5 71 rfl rfl, tb1 8 rfl rfl, tb5 72 rfl rfl, ⟨by decide +kernel, by decide +kernel, by decide +kernel⟩, by decide⟩
theorem mwX10_270 : zMv RX10 270 mX1_take 3 := ⟨tb5 80 rfl rfl, tb5 81 rfl rfl, tb5 82 rfl rfl, tb1 9 rfl rfl, tb5 83 rfl rfl, ⟨by decide +kernel, by decide +kernel, by decide +kernel⟩, by decide⟩
theorem mwX10_277 : zMv RX10 277 mX1_fitLength 2 := ⟨tb5 94 rfl rfl, tb5 95 rfl rfl, tb5 96 rfl rfl, tb1 9 rfl rfl, tb5 97 rfl rfl, ⟨by decide +kernel, by decide +kernel, by decide +kernel⟩, by decide⟩
theorem mwX10_281 : zMs RX10 281 mJ6_bitCount_0f7a4 1 := ⟨tb5 100 rfl rfl, tb5 101 rfl rfl, tb1 21 rfl rfl, tb5 102 rfl rfl, ⟨by decide +kernel, by decide +kernel, by decide +kernel⟩, by decide⟩
theorem mwX10_286 : zMv RX10 286 mX10_beginAct 0 := ⟨tb5 110 rfl rfl, tb5 112 rfl rfl, tb_pv (q := (yX10_beginAct, 11)) (List.mem_of_getElem? (i := 45) (by decide +kernel)), tb1 1 rfl rfl, tb5 113 rfl rfl, ⟨by decide +kernel, by decide +kernel, by decide +kernel⟩, by decide⟩
theorem mwX10_289 : zMv RX10 289 mX10_driveThrough 0 := ⟨tb5 120 rfl rfl, tb5 122 rfl rfl, tb_pv (q := (yX10_driveThrough, 11)) (List.mem_of_getElem? (i := 46) (by decide +kernel)), tb1 1 rfl rfl, tb5 123 rfl rfl, ⟨by decide +kernel, by decide +kernel, by decide +kernel⟩, by decide⟩
theorem mwX10_292 : zMv RX10 292 mX7_setBreath 2 := ⟨tb5 157 rfl rfl, tb5 158 rfl rfl, tb5 159 rfl rfl, tb1 3 rfl rfl, tb5 160 rfl rfl, ⟨by decide +kernel, by decide +kernel, by decide +kernel⟩, by decide⟩
theorem mwX10_295 : zMs RX10 295 mX10_isSecond 1 := ⟨tb5 177 rfl rfl, tb5 88 rfl rfl, tb1 1 rfl rfl, tb5 89 rfl rfl, ⟨by decide +kernel, by decide +kernel, by decide +kernel⟩, by decide⟩
theorem mwX10_298 : zMv RX10 298 mX7_setThinks 3 := ⟨tb5 178 rfl rfl, tb5 179 rfl rfl, tb5 180 rfl rfl, tb1 3 rfl rfl, tb5 181 rfl rfl, ⟨by decide +kernel, by decide +kernel, by decide +kernel⟩, by decide⟩
theorem mwX10_301 : zMv RX10 301 mX7_setGives 2 := ⟨tb5 186 rfl rfl, tb5 187 rfl rfl, tb5 188 rfl rfl, tb1 3 rfl rfl, tb5 189 rfl rfl, ⟨by decide +kernel, by decide +kernel, by decide +kernel⟩, by decide⟩
theorem mwX10_304 : zMv RX10 304 mX2_takeBack 1 := ⟨tb5 194 rfl rfl, tb5 195 rfl rfl, tb5 196 rfl rfl, tb1 4 rfl rfl, tb5 197 rfl rfl, ⟨by decide +kernel, by decide +kernel, by decide +kernel⟩, by decide⟩
theorem mwX10_308 : zMv RX10 308 mX7_keptPart 2 := ⟨tb5 206 rfl rfl, tb5 207 rfl rfl, tb5 208 rfl rfl, tb1 3 rfl rfl, tb5 209 rfl rfl, ⟨by decide +kernel, by decide +kernel, by decide +kernel⟩, by decide⟩
theorem mwX10_311 : zMv RX10 311 mX3_write 2 := ⟨tb5 215 rfl rfl, tb5 216 rfl rfl, tb5 217 rfl rfl, tb1 10 rfl rfl, tb5 218 rfl rfl, ⟨by decide +kernel, by decide +kernel, by decide +kernel⟩, by decide⟩
theorem mwX10_318 : zMs RX10 318 mX3_isOf 2 := ⟨tb6 0 rfl rfl, tb6 1 rfl rfl, tb1 10 rfl rfl, tb6 2 rfl rfl, ⟨by decide +kernel, by decide +kernel, by decide +kernel⟩, by decide⟩
theorem mwX10_322 : zMs RX10 322 mX3_putInto 3 := ⟨tb6 17 rfl rfl, tb6 18 rfl rfl, tb1 10 rfl rfl, tb6 19 rfl rfl, ⟨by decide +kernel, by decide +kernel, by decide +kernel⟩, by decide⟩
theorem mwX10_326 : zMv RX10 326 mX2_add 1 := ⟨tb5 114 rfl rfl, tb5 115 rfl rfl, tb5 116 rfl rfl, tb1 4 rfl rfl, tb5 117 rfl rfl, ⟨by decide +kernel, by decide +kernel, by decide +kernel⟩, by decide⟩
theorem mwX10_329 : zMv RX10 329 mX10_drawLength 1 := ⟨tb5 124 rfl rfl, tb5 126 rfl rfl, tb_pv (q := (yX10_drawLength, 11)) (List.mem_of_getElem? (i := 47) (by decide +kernel)), tb1 1 rfl rfl, tb5 127 rfl rfl, ⟨by decide +kernel, by decide +kernel, by decide +kernel⟩, by decide⟩
theorem mwX10_332 : zMv RX10 332 mX10_drawHeld 2 := ⟨tb5 135 rfl rfl, tb5 137 rfl rfl, tb_pv (q := (yX10_drawHeld, 11)) (List.mem_of_getElem? (i := 49) (by decide +kernel)), tb1 1 rfl rfl, tb5 138 rfl rfl, ⟨by decide +kernel, by decide +kernel, by decide +kernel⟩, by decide⟩
theorem mwX10_338 : zMs RX10 338 mX10_setAt 3 := ⟨tb5 139 rfl rfl, tb3 125 rfl rfl, tb1 1 rfl rfl, tb3 126 rfl rfl, ⟨by decide +kernel, by decide +kernel, by decide +kernel⟩, by decide⟩
theorem mwX10_342 : zMv RX10 342 mX7_addScore 2 := ⟨tb5 140 rfl rfl, tb5 141 rfl rfl, tb5 142 rfl rfl, tb1 3 rfl rfl, tb5 143 rfl rfl, ⟨by decide +kernel, by decide +kernel, by decide +kernel⟩, by decide⟩
theorem mwX10_345 : zMv RX10 345 mX4_tiredAmong 3 := ⟨tb5 153 rfl rfl, tb5 154 rfl rfl, tb5 155 rfl rfl, tb1 5 rfl rfl, tb5 156 rfl rfl, ⟨by decide +kernel, by decide +kernel, by decide +kernel⟩, by decide⟩
theorem mwX10_348 : zMv RX10 348 mX7_keep 4 := ⟨tb5 161 rfl rfl, tb5 162 rfl rfl, tb5 163 rfl rfl, tb1 3 rfl rfl, tb5 164 rfl rfl, ⟨by decide +kernel, by decide +kernel, by decide +kernel⟩, by decide⟩
theorem mwX10_352 : zMv RX10 352 mX7_setNextTunnel 1 := ⟨tb5 165 rfl rfl, tb5 166 rfl rfl, tb5 167 rfl rfl, tb1 3 rfl rfl, tb5 168 rfl rfl, ⟨by decide +kernel, by decide +kernel, by decide +kernel⟩, by decide⟩
theorem mwX10_355 : zMv RX10 355 mX10_draw 1 := ⟨tb5 128 rfl rfl, tb5 130 rfl rfl, tb_pv (q := (yX10_draw, 11)) (List.mem_of_getElem? (i := 48) (by decide +kernel)), tb1 1 rfl rfl, tb5 131 rfl rfl, ⟨by decide +kernel, by decide +kernel, by decide +kernel⟩, by decide⟩
theorem mwX10_366 : zMs RX10 366 mJ9_floorDiv_f86c9 2 := ⟨tb4 107 rfl rfl, tb4 108 rfl rfl, tb1 18 rfl rfl, tb4 109 rfl rfl, ⟨by decide +kernel, by decide +kernel, by decide +kernel⟩, by decide⟩
theorem mwX10_372 : zMs RX10 372 mJ9_min_7cf53 2 := ⟨tb4 186 rfl rfl, tb3 63 rfl rfl, tb1 18 rfl rfl, tb3 64 rfl rfl, ⟨by decide +kernel, by decide +kernel, by decide +kernel⟩, by decide⟩
theorem mwX10_375 : zMs RX10 375 mJ9_max_7cf53 2 := ⟨tb4 187 rfl rfl, tb3 60 rfl rfl, tb1 18 rfl rfl, tb3 61 rfl rfl, ⟨by decide +kernel, by decide +kernel, by decide +kernel⟩, by decide⟩
theorem moX0_3 : Cond.methodLink RX0 3 Lib.objectInit ∈ TB ∧ Cond.instanceMethod Lib.objectInit ∈ TB ∧ Cond.code Lib.objectInit ⟨#[0xb1]⟩ 1 none ∈ TB := ⟨tb1 227 rfl rfl, tb1 28 rfl rfl, tb1 29 rfl rfl⟩
theorem mwX0_55 : zMt RX0 55 mX10_setAt_ 3 := ⟨⟨"BreathRoad", List.mem_of_getElem? (i := 14) rfl⟩, tb4 206 rfl rfl, tb1 1 rfl rfl, tb4 207 rfl rfl, ⟨by decide +kernel, by decide +kernel, by decide +kernel⟩, by decide⟩
theorem mwX0_59 : zMt RX0 59 mX10_valueAt_ 2 := ⟨⟨"BreathRoad", List.mem_of_getElem? (i := 15) rfl⟩, tb4 209 rfl rfl, tb1 1 rfl rfl, tb4 210 rfl rfl, ⟨by decide +kernel, by decide +kernel, by decide +kernel⟩, by decide⟩
theorem mwX0_69 : zMv RX0 69 mX0_tunnelAt 1 := ⟨tb4 211 rfl rfl, tb4 213 rfl rfl, tb_pv (q := (yX0_tunnelAt, 13)) (List.mem_of_getElem? (i := 37) (by decide +kernel)), tb1 8 rfl rfl, tb4 214 rfl rfl, ⟨by decide +kernel, by decide +kernel, by decide +kernel⟩, by decide⟩
theorem mwX0_73 : zMv RX0 73 mX6_allWeights 1 := ⟨tb4 215 rfl rfl, tb4 69 rfl rfl, tb4 70 rfl rfl, tb1 6 rfl rfl, tb4 71 rfl rfl, ⟨by decide +kernel, by decide +kernel, by decide +kernel⟩, by decide⟩
theorem mwX0_80 : zMs RX0 80 mJ7_fill_d0a16 2 := ⟨tb4 217 rfl rfl, tb4 218 rfl rfl, tb1 17 rfl rfl, tb4 219 rfl rfl, ⟨by decide +kernel, by decide +kernel, by decide +kernel⟩, by decide⟩
theorem mwX0_86 : zMv RX0 86 mX0_bestFrom 2 := ⟨tb4 220 rfl rfl, tb4 222 rfl rfl, tb_pv (q := (yX0_bestFrom, 13)) (List.mem_of_getElem? (i := 38) (by decide +kernel)), tb1 8 rfl rfl, tb4 223 rfl rfl, ⟨by decide +kernel, by decide +kernel, by decide +kernel⟩, by decide⟩
theorem mwX0_90 : zMv RX0 90 mX0_bestSecond 2 := ⟨tb5 5 rfl rfl, tb5 7 rfl rfl, tb_pv (q := (yX0_bestSecond, 13)) (List.mem_of_getElem? (i := 42) (by decide +kernel)), tb1 8 rfl rfl, tb5 8 rfl rfl, ⟨by decide +kernel, by decide +kernel, by decide +kernel⟩, by decide⟩
theorem mwX0_97 : zMv RX0 97 mX0_clearTotals 1 := ⟨tb4 224 rfl rfl, tb4 226 rfl rfl, tb_pv (q := (yX0_clearTotals, 13)) (List.mem_of_getElem? (i := 39) (by decide +kernel)), tb1 8 rfl rfl, tb4 227 rfl rfl, ⟨by decide +kernel, by decide +kernel, by decide +kernel⟩, by decide⟩
theorem mwX0_101 : zMv RX0 101 mX6_lengthCount 1 := ⟨tb4 228 rfl rfl, tb3 140 rfl rfl, tb3 141 rfl rfl, tb1 6 rfl rfl, tb3 142 rfl rfl, ⟨by decide +kernel, by decide +kernel, by decide +kernel⟩, by decide⟩
theorem mwX0_104 : zMv RX0 104 mX0_addPlanned 3 := ⟨tb4 229 rfl rfl, tb4 231 rfl rfl, tb_pv (q := (yX0_addPlanned, 13)) (List.mem_of_getElem? (i := 40) (by decide +kernel)), tb1 8 rfl rfl, tb4 232 rfl rfl, ⟨by decide +kernel, by decide +kernel, by decide +kernel⟩, by decide⟩
theorem mwX0_108 : zMv RX0 108 mX6_lengthAt 2 := ⟨tb4 233 rfl rfl, tb3 152 rfl rfl, tb3 153 rfl rfl, tb1 6 rfl rfl, tb3 154 rfl rfl, ⟨by decide +kernel, by decide +kernel, by decide +kernel⟩, by decide⟩
theorem mwX0_111 : zMv RX0 111 mX6_weightAt 2 := ⟨tb4 234 rfl rfl, tb4 65 rfl rfl, tb4 66 rfl rfl, tb1 6 rfl rfl, tb4 67 rfl rfl, ⟨by decide +kernel, by decide +kernel, by decide +kernel⟩, by decide⟩
theorem mwX0_114 : zMs RX0 114 mJ9_min_7cf53 2 := ⟨tb4 235 rfl rfl, tb3 63 rfl rfl, tb1 18 rfl rfl, tb3 64 rfl rfl, ⟨by decide +kernel, by decide +kernel, by decide +kernel⟩, by decide⟩
theorem mwX0_119 : zMv RX0 119 mX4_worthAlone 4 := ⟨tb4 236 rfl rfl, tb4 237 rfl rfl, tb4 238 rfl rfl, tb1 5 rfl rfl, tb4 239 rfl rfl, ⟨by decide +kernel, by decide +kernel, by decide +kernel⟩, by decide⟩
theorem mwX0_123 : zMv RX0 123 mX4_tiredAlone 4 := ⟨tb5 0 rfl rfl, tb4 193 rfl rfl, tb4 194 rfl rfl, tb1 5 rfl rfl, tb4 195 rfl rfl, ⟨by decide +kernel, by decide +kernel, by decide +kernel⟩, by decide⟩
theorem mwX0_126 : zMv RX0 126 mX0_addToSeconds 4 := ⟨tb5 1 rfl rfl, tb5 3 rfl rfl, tb_pv (q := (yX0_addToSeconds, 13)) (List.mem_of_getElem? (i := 41) (by decide +kernel)), tb1 8 rfl rfl, tb5 4 rfl rfl, ⟨by decide +kernel, by decide +kernel, by decide +kernel⟩, by decide⟩
theorem mwX0_137 : zMv RX0 137 mX7_breathOf 1 := ⟨tb5 21 rfl rfl, tb4 83 rfl rfl, tb4 84 rfl rfl, tb1 3 rfl rfl, tb4 85 rfl rfl, ⟨by decide +kernel, by decide +kernel, by decide +kernel⟩, by decide⟩
theorem mwX0_142 : zMt RX0 142 mX10_setAt 3 := ⟨⟨"BreathRoad", List.mem_of_getElem? (i := 16) rfl⟩, tb3 125 rfl rfl, tb1 1 rfl rfl, tb3 126 rfl rfl, ⟨by decide +kernel, by decide +kernel, by decide +kernel⟩, by decide⟩
theorem mwX0_145 : zMv RX0 145 mX0_isAnyMoved 1 := ⟨tb5 23 rfl rfl, tb5 25 rfl rfl, tb_pv (q := (yX0_isAnyMoved, 13)) (List.mem_of_getElem? (i := 43) (by decide +kernel)), tb1 8 rfl rfl, tb5 26 rfl rfl, ⟨by decide +kernel, by decide +kernel, by decide +kernel⟩, by decide⟩
theorem mwX0_149 : zMv RX0 149 mX0_fillAgainstOthers 3 := ⟨tb5 27 rfl rfl, tb5 29 rfl rfl, tb_pv (q := (yX0_fillAgainstOthers, 13)) (List.mem_of_getElem? (i := 44) (by decide +kernel)), tb1 8 rfl rfl, tb5 30 rfl rfl, ⟨by decide +kernel, by decide +kernel, by decide +kernel⟩, by decide⟩
theorem mwX0_152 : zMt RX0 152 mX10_valueAt 2 := ⟨⟨"BreathRoad", List.mem_of_getElem? (i := 17) rfl⟩, tb3 144 rfl rfl, tb1 1 rfl rfl, tb3 145 rfl rfl, ⟨by decide +kernel, by decide +kernel, by decide +kernel⟩, by decide⟩
theorem mwX0_158 : zMv RX0 158 mX4_worthAmong 3 := ⟨tb5 32 rfl rfl, tb4 141 rfl rfl, tb4 142 rfl rfl, tb1 5 rfl rfl, tb4 143 rfl rfl, ⟨by decide +kernel, by decide +kernel, by decide +kernel⟩, by decide⟩
theorem mwX0_170 : zMv RX0 170 mX0_paceWeights 3 := ⟨tb5 51 rfl rfl, tb5 52 rfl rfl, tb5 53 rfl rfl, tb1 8 rfl rfl, tb5 54 rfl rfl, ⟨by decide +kernel, by decide +kernel, by decide +kernel⟩, by decide⟩
theorem mwX0_173 : zMs RX0 173 mJ9_max_7cf53 2 := ⟨tb5 55 rfl rfl, tb3 60 rfl rfl, tb1 18 rfl rfl, tb3 61 rfl rfl, ⟨by decide +kernel, by decide +kernel, by decide +kernel⟩, by decide⟩
theorem mwX0_176 : zMv RX0 176 mX4_madeBits 2 := ⟨tb5 56 rfl rfl, tb5 57 rfl rfl, tb5 58 rfl rfl, tb1 5 rfl rfl, tb5 59 rfl rfl, ⟨by decide +kernel, by decide +kernel, by decide +kernel⟩, by decide⟩
theorem mwX0_179 : zMv RX0 179 mX0_totalAmong 3 := ⟨tb5 69 rfl rfl, tb5 70 rfl rfl, tb5 71 rfl rfl, tb1 8 rfl rfl, tb5 72 rfl rfl, ⟨by decide +kernel, by decide +kernel, by decide +kernel⟩, by decide⟩
theorem mwX0_183 : zMv RX0 183 mX4_allHold 2 := ⟨tb5 73 rfl rfl, tb4 135 rfl rfl, tb4 136 rfl rfl, tb1 5 rfl rfl, tb4 137 rfl rfl, ⟨by decide +kernel, by decide +kernel, by decide +kernel⟩, by decide⟩
theorem mwX0_187 : zMv RX0 187 mX6_hasHolder 1 := ⟨tb5 74 rfl rfl, tb3 180 rfl rfl, tb3 181 rfl rfl, tb1 6 rfl rfl, tb3 182 rfl rfl, ⟨by decide +kernel, by decide +kernel, by decide +kernel⟩, by decide⟩
theorem moX1_3 : Cond.methodLink RX1 3 Lib.objectInit ∈ TB ∧ Cond.instanceMethod Lib.objectInit ∈ TB ∧ Cond.code Lib.objectInit ⟨#[0xb1]⟩ 1 none ∈ TB := ⟨tb2 39 rfl rfl, tb1 28 rfl rfl, tb1 29 rfl rfl⟩
theorem mwX1_30 : zMv RX1 30 mX6_hasTunnel 1 := ⟨tb5 84 rfl rfl, tb3 184 rfl rfl, tb3 185 rfl rfl, tb1 6 rfl rfl, tb3 186 rfl rfl, ⟨by decide +kernel, by decide +kernel, by decide +kernel⟩, by decide⟩
theorem mwX1_36 : zMv RX1 36 mX9_byteAt 1 := ⟨tb5 85 rfl rfl, tb3 3 rfl rfl, tb3 4 rfl rfl, tb1 2 rfl rfl, tb3 5 rfl rfl, ⟨by decide +kernel, by decide +kernel, by decide +kernel⟩, by decide⟩
theorem mwX1_40 : zMv RX1 40 mX6_hasHolder 1 := ⟨tb5 86 rfl rfl, tb3 180 rfl rfl, tb3 181 rfl rfl, tb1 6 rfl rfl, tb3 182 rfl rfl, ⟨by decide +kernel, by decide +kernel, by decide +kernel⟩, by decide⟩
theorem mwX1_43 : zMt RX1 43 mX10_isSecond 1 := ⟨⟨"BreathRoad", List.mem_of_getElem? (i := 18) rfl⟩, tb5 88 rfl rfl, tb1 1 rfl rfl, tb5 89 rfl rfl, ⟨by decide +kernel, by decide +kernel, by decide +kernel⟩, by decide⟩
theorem mwX1_46 : zMt RX1 46 mX10_valueAt 2 := ⟨⟨"BreathRoad", List.mem_of_getElem? (i := 19) rfl⟩, tb3 144 rfl rfl, tb1 1 rfl rfl, tb3 145 rfl rfl, ⟨by decide +kernel, by decide +kernel, by decide +kernel⟩, by decide⟩
theorem mwX1_50 : zMv RX1 50 mX4_secondsHeld 3 := ⟨tb5 99 rfl rfl, tb4 119 rfl rfl, tb4 120 rfl rfl, tb1 5 rfl rfl, tb4 121 rfl rfl, ⟨by decide +kernel, by decide +kernel, by decide +kernel⟩, by decide⟩
theorem moX2_3 : Cond.methodLink RX2 3 Lib.objectInit ∈ TB ∧ Cond.instanceMethod Lib.objectInit ∈ TB ∧ Cond.code Lib.objectInit ⟨#[0xb1]⟩ 1 none ∈ TB := ⟨tb1 65 rfl rfl, tb1 28 rfl rfl, tb1 29 rfl rfl⟩
theorem mcX2_27 : Cond.methodLink RX2 27 arraycopyName ∈ TB ∧ Cond.native arraycopyName ∈ TB ∧ Cond.static arraycopyName ∈ TB ∧ Cond.initialized "java/lang/System" ∈ TB := ⟨tb5 118 rfl rfl, tb4 26 rfl rfl, tb4 25 rfl rfl, tb1 20 rfl rfl⟩
theorem mwX2_33 : zMs RX2 33 mJ9_min_7cf53 2 := ⟨tb5 119 rfl rfl, tb3 63 rfl rfl, tb1 18 rfl rfl, tb3 64 rfl rfl, ⟨by decide +kernel, by decide +kernel, by decide +kernel⟩, by decide⟩
theorem moX3_3 : Cond.methodLink RX3 3 Lib.objectInit ∈ TB ∧ Cond.instanceMethod Lib.objectInit ∈ TB ∧ Cond.code Lib.objectInit ⟨#[0xb1]⟩ 1 none ∈ TB := ⟨tb2 60 rfl rfl, tb1 28 rfl rfl, tb1 29 rfl rfl⟩
theorem mwX3_19 : zMv RX3 19 mX7_nextTunnel 0 := ⟨tb5 219 rfl rfl, tb4 40 rfl rfl, tb4 41 rfl rfl, tb1 3 rfl rfl, tb4 42 rfl rfl, ⟨by decide +kernel, by decide +kernel, by decide +kernel⟩, by decide⟩
theorem mwX3_25 : zMv RX3 25 mX3_addByte 1 := ⟨tb5 220 rfl rfl, tb5 222 rfl rfl, tb_pv (q := (yX3_addByte, 2)) (List.mem_of_getElem? (i := 50) (by decide +kernel)), tb1 10 rfl rfl, tb5 223 rfl rfl, ⟨by decide +kernel, by decide +kernel, by decide +kernel⟩, by decide⟩
theorem mwX3_34 : zMv RX3 34 mX7_breathOf 1 := ⟨tb5 224 rfl rfl, tb4 83 rfl rfl, tb4 84 rfl rfl, tb1 3 rfl rfl, tb4 85 rfl rfl, ⟨by decide +kernel, by decide +kernel, by decide +kernel⟩, by decide⟩
theorem mwX3_38 : zMv RX3 38 mX7_givesOf 1 := ⟨tb5 225 rfl rfl, tb4 87 rfl rfl, tb4 88 rfl rfl, tb1 3 rfl rfl, tb4 89 rfl rfl, ⟨by decide +kernel, by decide +kernel, by decide +kernel⟩, by decide⟩
theorem mwX3_41 : zMv RX3 41 mX7_scoreOf 1 := ⟨tb5 226 rfl rfl, tb4 95 rfl rfl, tb4 96 rfl rfl, tb1 3 rfl rfl, tb4 97 rfl rfl, ⟨by decide +kernel, by decide +kernel, by decide +kernel⟩, by decide⟩
theorem mwX3_48 : zMv RX3 48 mX7_thinksOf 2 := ⟨tb5 228 rfl rfl, tb4 78 rfl rfl, tb4 79 rfl rfl, tb1 3 rfl rfl, tb4 80 rfl rfl, ⟨by decide +kernel, by decide +kernel, by decide +kernel⟩, by decide⟩
theorem mwX3_52 : zMs RX3 52 mX3_withChecked 2 := ⟨tb5 229 rfl rfl, tb5 230 rfl rfl, tb1 10 rfl rfl, tb5 231 rfl rfl, ⟨by decide +kernel, by decide +kernel, by decide +kernel⟩, by decide⟩
theorem mwX3_55 : zMs RX3 55 mX3_holderSize 1 := ⟨tb6 3 rfl rfl, tb6 4 rfl rfl, tb1 10 rfl rfl, tb6 5 rfl rfl, ⟨by decide +kernel, by decide +kernel, by decide +kernel⟩, by decide⟩
theorem mwX3_62 : zMv RX3 62 mX9_byteAt 1 := ⟨tb6 6 rfl rfl, tb3 3 rfl rfl, tb3 4 rfl rfl, tb1 2 rfl rfl, tb3 5 rfl rfl, ⟨by decide +kernel, by decide +kernel, by decide +kernel⟩, by decide⟩
theorem mwX3_65 : zMv RX3 65 mX6_hasTunnel 1 := ⟨tb6 7 rfl rfl, tb3 184 rfl rfl, tb3 185 rfl rfl, tb1 6 rfl rfl, tb3 186 rfl rfl, ⟨by decide +kernel, by decide +kernel, by decide +kernel⟩, by decide⟩
theorem mwX3_69 : zMs RX3 69 mX3_isHolderAt 3 := ⟨tb6 8 rfl rfl, tb6 9 rfl rfl, tb1 10 rfl rfl, tb6 10 rfl rfl, ⟨by decide +kernel, by decide +kernel, by decide +kernel⟩, by decide⟩
theorem mwX3_73 : zMt RX3 73 mX10_isSecond 1 := ⟨⟨"BreathRoad", List.mem_of_getElem? (i := 22) rfl⟩, tb5 88 rfl rfl, tb1 1 rfl rfl, tb5 89 rfl rfl, ⟨by decide +kernel, by decide +kernel, by decide +kernel⟩, by decide⟩
theorem mwX3_76 : zMs RX3 76 mX3_scoreAt 2 := ⟨tb6 12 rfl rfl, tb6 13 rfl rfl, tb1 10 rfl rfl, tb6 14 rfl rfl, ⟨by decide +kernel, by decide +kernel, by decide +kernel⟩, by decide⟩
theorem mwX3_82 : zMv RX3 82 mX7_keepNothing 0 := ⟨tb6 20 rfl rfl, tb6 21 rfl rfl, tb6 22 rfl rfl, tb1 3 rfl rfl, tb6 23 rfl rfl, ⟨by decide +kernel, by decide +kernel, by decide +kernel⟩, by decide⟩
theorem mwX3_85 : zMv RX3 85 mX7_setNextTunnel 1 := ⟨tb6 24 rfl rfl, tb5 166 rfl rfl, tb5 167 rfl rfl, tb1 3 rfl rfl, tb5 168 rfl rfl, ⟨by decide +kernel, by decide +kernel, by decide +kernel⟩, by decide⟩
theorem mwX3_88 : zMv RX3 88 mX7_setBreath 2 := ⟨tb6 25 rfl rfl, tb5 158 rfl rfl, tb5 159 rfl rfl, tb1 3 rfl rfl, tb5 160 rfl rfl, ⟨by decide +kernel, by decide +kernel, by decide +kernel⟩, by decide⟩
theorem mwX3_92 : zMv RX3 92 mX7_setGives 2 := ⟨tb6 26 rfl rfl, tb5 187 rfl rfl, tb5 188 rfl rfl, tb1 3 rfl rfl, tb5 189 rfl rfl, ⟨by decide +kernel, by decide +kernel, by decide +kernel⟩, by decide⟩
theorem mwX3_95 : zMv RX3 95 mX7_setScore 2 := ⟨tb6 27 rfl rfl, tb5 149 rfl rfl, tb5 150 rfl rfl, tb1 3 rfl rfl, tb5 151 rfl rfl, ⟨by decide +kernel, by decide +kernel, by decide +kernel⟩, by decide⟩
theorem mwX3_98 : zMv RX3 98 mX7_setThinks 3 := ⟨tb6 28 rfl rfl, tb5 179 rfl rfl, tb5 180 rfl rfl, tb1 3 rfl rfl, tb5 181 rfl rfl, ⟨by decide +kernel, by decide +kernel, by decide +kernel⟩, by decide⟩
theorem moX4_3 : Cond.methodLink RX4 3 Lib.objectInit ∈ TB ∧ Cond.instanceMethod Lib.objectInit ∈ TB ∧ Cond.code Lib.objectInit ⟨#[0xb1]⟩ 1 none ∈ TB := ⟨tb1 203 rfl rfl, tb1 28 rfl rfl, tb1 29 rfl rfl⟩
theorem mwX4_26 : zMv RX4 26 mX7_breathOf 1 := ⟨tb4 122 rfl rfl, tb4 83 rfl rfl, tb4 84 rfl rfl, tb1 3 rfl rfl, tb4 85 rfl rfl, ⟨by decide +kernel, by decide +kernel, by decide +kernel⟩, by decide⟩
theorem mwX4_32 : zMv RX4 32 mX7_givesOf 1 := ⟨tb4 123 rfl rfl, tb4 87 rfl rfl, tb4 88 rfl rfl, tb1 3 rfl rfl, tb4 89 rfl rfl, ⟨by decide +kernel, by decide +kernel, by decide +kernel⟩, by decide⟩
theorem mwX4_35 : zMs RX4 35 mJ9_min_7cf53 2 := ⟨tb4 124 rfl rfl, tb3 63 rfl rfl, tb1 18 rfl rfl, tb3 64 rfl rfl, ⟨by decide +kernel, by decide +kernel, by decide +kernel⟩, by decide⟩
theorem mwX4_41 : zMv RX4 41 mX7_thinksOf 2 := ⟨tb4 125 rfl rfl, tb4 78 rfl rfl, tb4 79 rfl rfl, tb1 3 rfl rfl, tb4 80 rfl rfl, ⟨by decide +kernel, by decide +kernel, by decide +kernel⟩, by decide⟩
theorem mwX4_50 : zMv RX4 50 mX4_secondsHeld 3 := ⟨tb4 138 rfl rfl, tb4 119 rfl rfl, tb4 120 rfl rfl, tb1 5 rfl rfl, tb4 121 rfl rfl, ⟨by decide +kernel, by decide +kernel, by decide +kernel⟩, by decide⟩
theorem mwX4_54 : zMt RX4 54 mX10_setAt 3 := ⟨⟨"BreathRoad", List.mem_of_getElem? (i := 11) rfl⟩, tb3 125 rfl rfl, tb1 1 rfl rfl, tb3 126 rfl rfl, ⟨by decide +kernel, by decide +kernel, by decide +kernel⟩, by decide⟩
theorem mwX4_58 : zMv RX4 58 mX4_tellAlone 4 := ⟨tb4 149 rfl rfl, tb4 151 rfl rfl, tb_pv (q := (yX4_tellAlone, 4)) (List.mem_of_getElem? (i := 34) (by decide +kernel)), tb1 5 rfl rfl, tb4 152 rfl rfl, ⟨by decide +kernel, by decide +kernel, by decide +kernel⟩, by decide⟩
theorem mwX4_68 : zMv RX4 68 mX8_valueOf 2 := ⟨tb4 153 rfl rfl, tb4 154 rfl rfl, tb4 155 rfl rfl, tb1 7 rfl rfl, tb4 156 rfl rfl, ⟨by decide +kernel, by decide +kernel, by decide +kernel⟩, by decide⟩
theorem mwX4_72 : zMt RX4 72 mX10_within 3 := ⟨⟨"BreathRoad", List.mem_of_getElem? (i := 13) rfl⟩, tb4 184 rfl rfl, tb1 1 rfl rfl, tb4 185 rfl rfl, ⟨by decide +kernel, by decide +kernel, by decide +kernel⟩, by decide⟩
theorem mwX4_75 : zMv RX4 75 mX4_tellAmong 3 := ⟨tb4 144 rfl rfl, tb4 146 rfl rfl, tb_pv (q := (yX4_tellAmong, 4)) (List.mem_of_getElem? (i := 33) (by decide +kernel)), tb1 5 rfl rfl, tb4 147 rfl rfl, ⟨by decide +kernel, by decide +kernel, by decide +kernel⟩, by decide⟩
theorem mwX4_79 : zMv RX4 79 mX8_isTold 1 := ⟨tb4 196 rfl rfl, tb3 197 rfl rfl, tb3 198 rfl rfl, tb1 7 rfl rfl, tb3 199 rfl rfl, ⟨by decide +kernel, by decide +kernel, by decide +kernel⟩, by decide⟩
theorem mwX4_86 : zMt RX4 86 mX10_valueAt 2 := ⟨⟨"BreathRoad", List.mem_of_getElem? (i := 12) rfl⟩, tb3 144 rfl rfl, tb1 1 rfl rfl, tb3 145 rfl rfl, ⟨by decide +kernel, by decide +kernel, by decide +kernel⟩, by decide⟩
theorem moX5_3 : Cond.methodLink RX5 3 Lib.objectInit ∈ TB ∧ Cond.instanceMethod Lib.objectInit ∈ TB ∧ Cond.code Lib.objectInit ⟨#[0xb1]⟩ 1 none ∈ TB := ⟨tb2 75 rfl rfl, tb1 28 rfl rfl, tb1 29 rfl rfl⟩
theorem mwX5_50 : zMv RX5 50 mJ0_length_8abf5 0 := ⟨tb2 77 rfl rfl, tb2 78 rfl rfl, tb2 79 rfl rfl, tb1 12 rfl rfl, tb2 80 rfl rfl, ⟨by decide +kernel, by decide +kernel, by decide +kernel⟩, by decide⟩
theorem mwX5_56 : zMv RX5 56 mJ0_charAt_5068e 1 := ⟨tb2 87 rfl rfl, tb2 88 rfl rfl, tb2 89 rfl rfl, tb1 12 rfl rfl, tb2 90 rfl rfl, ⟨by decide +kernel, by decide +kernel, by decide +kernel⟩, by decide⟩
theorem mwX5_60 : zMs RX5 60 mX5_withLetter 3 := ⟨tb2 125 rfl rfl, tb2 126 rfl rfl, tb1 11 rfl rfl, tb2 127 rfl rfl, ⟨by decide +kernel, by decide +kernel, by decide +kernel⟩, by decide⟩
theorem mwX5_64 : zMv RX5 64 mX6_clear 0 := ⟨tb2 222 rfl rfl, tb2 223 rfl rfl, tb2 224 rfl rfl, tb1 6 rfl rfl, tb2 225 rfl rfl, ⟨by decide +kernel, by decide +kernel, by decide +kernel⟩, by decide⟩
theorem mwX5_69 : zMv RX5 69 mX5_isSideBySide 0 := ⟨tb3 18 rfl rfl, tb3 20 rfl rfl, tb_pv (q := (yX5_isSideBySide, 11)) (List.mem_of_getElem? (i := 4) (by decide +kernel)), tb1 11 rfl rfl, tb3 21 rfl rfl, ⟨by decide +kernel, by decide +kernel, by decide +kernel⟩, by decide⟩
theorem mwX5_73 : zMv RX5 73 mX5_fail 2 := ⟨tb3 10 rfl rfl, tb3 12 rfl rfl, tb_pv (q := (yX5_fail, 11)) (List.mem_of_getElem? (i := 2) (by decide +kernel)), tb1 11 rfl rfl, tb3 13 rfl rfl, ⟨by decide +kernel, by decide +kernel, by decide +kernel⟩, by decide⟩
theorem mwX5_77 : zMv RX5 77 mX5_skipBlanks 0 := ⟨tb2 238 rfl rfl, tb3 0 rfl rfl, tb_pv (q := (yX5_skipBlanks, 11)) (List.mem_of_getElem? (i := 1) (by decide +kernel)), tb1 11 rfl rfl, tb3 1 rfl rfl, ⟨by decide +kernel, by decide +kernel, by decide +kernel⟩, by decide⟩
theorem mwX5_85 : zMv RX5 85 mX9_byteAt 1 := ⟨tb3 2 rfl rfl, tb3 3 rfl rfl, tb3 4 rfl rfl, tb1 2 rfl rfl, tb3 5 rfl rfl, ⟨by decide +kernel, by decide +kernel, by decide +kernel⟩, by decide⟩
theorem mwX5_89 : zMs RX5 89 mX5_isLetter 1 := ⟨tb3 22 rfl rfl, tb3 23 rfl rfl, tb1 11 rfl rfl, tb3 24 rfl rfl, ⟨by decide +kernel, by decide +kernel, by decide +kernel⟩, by decide⟩
theorem mwX5_93 : zMv RX5 93 mX5_scanWord 0 := ⟨tb3 28 rfl rfl, tb3 30 rfl rfl, tb_pv (q := (yX5_scanWord, 11)) (List.mem_of_getElem? (i := 5) (by decide +kernel)), tb1 11 rfl rfl, tb3 31 rfl rfl, ⟨by decide +kernel, by decide +kernel, by decide +kernel⟩, by decide⟩
theorem mwX5_96 : zMs RX5 96 mX5_isDigit 1 := ⟨tb3 25 rfl rfl, tb3 26 rfl rfl, tb1 11 rfl rfl, tb3 27 rfl rfl, ⟨by decide +kernel, by decide +kernel, by decide +kernel⟩, by decide⟩
theorem mwX5_99 : zMv RX5 99 mX5_scanNumber 0 := ⟨tb3 35 rfl rfl, tb3 37 rfl rfl, tb_pv (q := (yX5_scanNumber, 11)) (List.mem_of_getElem? (i := 6) (by decide +kernel)), tb1 11 rfl rfl, tb3 38 rfl rfl, ⟨by decide +kernel, by decide +kernel, by decide +kernel⟩, by decide⟩
theorem mwX5_102 : zMv RX5 102 mX5_scanSign 0 := ⟨tb3 39 rfl rfl, tb3 41 rfl rfl, tb_pv (q := (yX5_scanSign, 11)) (List.mem_of_getElem? (i := 7) (by decide +kernel)), tb1 11 rfl rfl, tb3 42 rfl rfl, ⟨by decide +kernel, by decide +kernel, by decide +kernel⟩, by decide⟩
theorem mwX5_105 : zMs RX5 105 mX6_find 3 := ⟨tb3 32 rfl rfl, tb3 33 rfl rfl, tb1 6 rfl rfl, tb3 34 rfl rfl, ⟨by decide +kernel, by decide +kernel, by decide +kernel⟩, by decide⟩
theorem mwX5_111 : zMv RX5 111 mJ0_indexOf_0f7a4 1 := ⟨tb3 44 rfl rfl, tb3 45 rfl rfl, tb3 46 rfl rfl, tb1 12 rfl rfl, tb3 47 rfl rfl, ⟨by decide +kernel, by decide +kernel, by decide +kernel⟩, by decide⟩
theorem mwX5_114 : zMv RX5 114 mX5_advance 0 := ⟨tb3 14 rfl rfl, tb3 16 rfl rfl, tb_pv (q := (yX5_advance, 11)) (List.mem_of_getElem? (i := 3) (by decide +kernel)), tb1 11 rfl rfl, tb3 17 rfl rfl, ⟨by decide +kernel, by decide +kernel, by decide +kernel⟩, by decide⟩
theorem mwX5_117 : zMv RX5 117 mX5_isName 0 := ⟨tb3 111 rfl rfl, tb3 113 rfl rfl, tb_pv (q := (yX5_isName, 11)) (List.mem_of_getElem? (i := 10) (by decide +kernel)), tb1 11 rfl rfl, tb3 114 rfl rfl, ⟨by decide +kernel, by decide +kernel, by decide +kernel⟩, by decide⟩
theorem mwX5_120 : zMv RX5 120 mX6_tunnelNamed 1 := ⟨tb3 115 rfl rfl, tb3 116 rfl rfl, tb3 117 rfl rfl, tb1 6 rfl rfl, tb3 118 rfl rfl, ⟨by decide +kernel, by decide +kernel, by decide +kernel⟩, by decide⟩
theorem mwX5_123 : zMv RX5 123 mX6_holderNamed 1 := ⟨tb3 120 rfl rfl, tb3 121 rfl rfl, tb3 122 rfl rfl, tb1 6 rfl rfl, tb3 123 rfl rfl, ⟨by decide +kernel, by decide +kernel, by decide +kernel⟩, by decide⟩
theorem mwX5_126 : zMv RX5 126 mX5_takeKnownName 1 := ⟨tb3 167 rfl rfl, tb3 169 rfl rfl, tb_pv (q := (yX5_takeKnownName, 11)) (List.mem_of_getElem? (i := 17) (by decide +kernel)), tb1 11 rfl rfl, tb3 170 rfl rfl, ⟨by decide +kernel, by decide +kernel, by decide +kernel⟩, by decide⟩
theorem mwX5_133 : zMv RX5 133 mX5_readTunnel 0 := ⟨tb3 103 rfl rfl, tb3 105 rfl rfl, tb_pv (q := (yX5_readTunnel, 11)) (List.mem_of_getElem? (i := 8) (by decide +kernel)), tb1 11 rfl rfl, tb3 106 rfl rfl, ⟨by decide +kernel, by decide +kernel, by decide +kernel⟩, by decide⟩
theorem mwX5_136 : zMv RX5 136 mX5_readHolder 0 := ⟨tb3 155 rfl rfl, tb3 157 rfl rfl, tb_pv (q := (yX5_readHolder, 11)) (List.mem_of_getElem? (i := 14) (by decide +kernel)), tb1 11 rfl rfl, tb3 158 rfl rfl, ⟨by decide +kernel, by decide +kernel, by decide +kernel⟩, by decide⟩
theorem mwX5_139 : zMv RX5 139 mX5_readThinks 0 := ⟨tb3 159 rfl rfl, tb3 161 rfl rfl, tb_pv (q := (yX5_readThinks, 11)) (List.mem_of_getElem? (i := 15) (by decide +kernel)), tb1 11 rfl rfl, tb3 162 rfl rfl, ⟨by decide +kernel, by decide +kernel, by decide +kernel⟩, by decide⟩
theorem mwX5_142 : zMv RX5 142 mX5_readGives 0 := ⟨tb3 187 rfl rfl, tb3 189 rfl rfl, tb_pv (q := (yX5_readGives, 11)) (List.mem_of_getElem? (i := 19) (by decide +kernel)), tb1 11 rfl rfl, tb3 190 rfl rfl, ⟨by decide +kernel, by decide +kernel, by decide +kernel⟩, by decide⟩
theorem mwX5_147 : zMv RX5 147 mX5_readTold 1 := ⟨tb3 192 rfl rfl, tb3 194 rfl rfl, tb_pv (q := (yX5_readTold, 11)) (List.mem_of_getElem? (i := 20) (by decide +kernel)), tb1 11 rfl rfl, tb3 195 rfl rfl, ⟨by decide +kernel, by decide +kernel, by decide +kernel⟩, by decide⟩
theorem mwX5_150 : zMv RX5 150 mX5_takeNumber 2 := ⟨tb3 131 rfl rfl, tb3 133 rfl rfl, tb_pv (q := (yX5_takeNumber, 11)) (List.mem_of_getElem? (i := 12) (by decide +kernel)), tb1 11 rfl rfl, tb3 134 rfl rfl, ⟨by decide +kernel, by decide +kernel, by decide +kernel⟩, by decide⟩
theorem mwX5_166 : zMv RX5 166 mX5_takeNewName 0 := ⟨tb3 107 rfl rfl, tb3 109 rfl rfl, tb_pv (q := (yX5_takeNewName, 11)) (List.mem_of_getElem? (i := 9) (by decide +kernel)), tb1 11 rfl rfl, tb3 110 rfl rfl, ⟨by decide +kernel, by decide +kernel, by decide +kernel⟩, by decide⟩
theorem mwX5_169 : zMt RX5 169 mX10_setAt 3 := ⟨⟨"BreathRoad", List.mem_of_getElem? (i := 7) rfl⟩, tb3 125 rfl rfl, tb1 1 rfl rfl, tb3 126 rfl rfl, ⟨by decide +kernel, by decide +kernel, by decide +kernel⟩, by decide⟩
theorem mwX5_173 : zMv RX5 173 mX5_takeWord 1 := ⟨tb3 127 rfl rfl, tb3 129 rfl rfl, tb_pv (q := (yX5_takeWord, 11)) (List.mem_of_getElem? (i := 11) (by decide +kernel)), tb1 11 rfl rfl, tb3 130 rfl rfl, ⟨by decide +kernel, by decide +kernel, by decide +kernel⟩, by decide⟩
theorem mwX5_179 : zMv RX5 179 mX5_readLength 1 := ⟨tb3 135 rfl rfl, tb3 137 rfl rfl, tb_pv (q := (yX5_readLength, 11)) (List.mem_of_getElem? (i := 13) (by decide +kernel)), tb1 11 rfl rfl, tb3 138 rfl rfl, ⟨by decide +kernel, by decide +kernel, by decide +kernel⟩, by decide⟩
theorem mwX5_182 : zMv RX5 182 mX6_lengthCount 1 := ⟨tb3 139 rfl rfl, tb3 140 rfl rfl, tb3 141 rfl rfl, tb1 6 rfl rfl, tb3 142 rfl rfl, ⟨by decide +kernel, by decide +kernel, by decide +kernel⟩, by decide⟩
theorem mwX5_185 : zMv RX5 185 mX6_hasLength 2 := ⟨tb3 146 rfl rfl, tb3 147 rfl rfl, tb3 148 rfl rfl, tb1 6 rfl rfl, tb3 149 rfl rfl, ⟨by decide +kernel, by decide +kernel, by decide +kernel⟩, by decide⟩
theorem mwX5_210 : zMv RX5 210 mX5_takeHolder 0 := ⟨tb3 163 rfl rfl, tb3 165 rfl rfl, tb_pv (q := (yX5_takeHolder, 11)) (List.mem_of_getElem? (i := 16) (by decide +kernel)), tb1 11 rfl rfl, tb3 166 rfl rfl, ⟨by decide +kernel, by decide +kernel, by decide +kernel⟩, by decide⟩
theorem mwX5_213 : zMv RX5 213 mX5_takeTunnel 0 := ⟨tb3 171 rfl rfl, tb3 173 rfl rfl, tb_pv (q := (yX5_takeTunnel, 11)) (List.mem_of_getElem? (i := 18) (by decide +kernel)), tb1 11 rfl rfl, tb3 174 rfl rfl, ⟨by decide +kernel, by decide +kernel, by decide +kernel⟩, by decide⟩
theorem mwX5_216 : zMv RX5 216 mX6_hasBoth 2 := ⟨tb3 175 rfl rfl, tb3 176 rfl rfl, tb3 177 rfl rfl, tb1 6 rfl rfl, tb3 178 rfl rfl, ⟨by decide +kernel, by decide +kernel, by decide +kernel⟩, by decide⟩
theorem mwX5_222 : zMv RX5 222 mX6_hasHolder 1 := ⟨tb3 191 rfl rfl, tb3 180 rfl rfl, tb3 181 rfl rfl, tb1 6 rfl rfl, tb3 182 rfl rfl, ⟨by decide +kernel, by decide +kernel, by decide +kernel⟩, by decide⟩
theorem mwX5_232 : zMv RX5 232 mX8_isTold 1 := ⟨tb3 196 rfl rfl, tb3 197 rfl rfl, tb3 198 rfl rfl, tb1 7 rfl rfl, tb3 199 rfl rfl, ⟨by decide +kernel, by decide +kernel, by decide +kernel⟩, by decide⟩
theorem mwX5_239 : zMv RX5 239 mX5_readSum 1 := ⟨tb3 201 rfl rfl, tb3 203 rfl rfl, tb_pv (q := (yX5_readSum, 11)) (List.mem_of_getElem? (i := 21) (by decide +kernel)), tb1 11 rfl rfl, tb3 204 rfl rfl, ⟨by decide +kernel, by decide +kernel, by decide +kernel⟩, by decide⟩
theorem mwX5_245 : zMv RX5 245 mX5_readProduct 1 := ⟨tb3 205 rfl rfl, tb3 207 rfl rfl, tb_pv (q := (yX5_readProduct, 11)) (List.mem_of_getElem? (i := 22) (by decide +kernel)), tb1 11 rfl rfl, tb3 208 rfl rfl, ⟨by decide +kernel, by decide +kernel, by decide +kernel⟩, by decide⟩
theorem mwX5_248 : zMv RX5 248 mX8_add 2 := ⟨tb3 213 rfl rfl, tb3 214 rfl rfl, tb3 215 rfl rfl, tb1 7 rfl rfl, tb3 216 rfl rfl, ⟨by decide +kernel, by decide +kernel, by decide +kernel⟩, by decide⟩
theorem mwX5_251 : zMv RX5 251 mX5_readPart 1 := ⟨tb3 209 rfl rfl, tb3 211 rfl rfl, tb_pv (q := (yX5_readPart, 11)) (List.mem_of_getElem? (i := 23) (by decide +kernel)), tb1 11 rfl rfl, tb3 212 rfl rfl, ⟨by decide +kernel, by decide +kernel, by decide +kernel⟩, by decide⟩
theorem mwX5_254 : zMs RX5 254 mX5_factOf 1 := ⟨tb3 217 rfl rfl, tb3 218 rfl rfl, tb1 11 rfl rfl, tb3 219 rfl rfl, ⟨by decide +kernel, by decide +kernel, by decide +kernel⟩, by decide⟩
theorem mwX5_257 : zMv RX5 257 mX5_isOpened 2 := ⟨tb3 220 rfl rfl, tb3 222 rfl rfl, tb_pv (q := (yX5_isOpened, 11)) (List.mem_of_getElem? (i := 24) (by decide +kernel)), tb1 11 rfl rfl, tb3 223 rfl rfl, ⟨by decide +kernel, by decide +kernel, by decide +kernel⟩, by decide⟩
theorem mwX5_260 : zMv RX5 260 mX5_takeSign 1 := ⟨tb3 224 rfl rfl, tb3 226 rfl rfl, tb_pv (q := (yX5_takeSign, 11)) (List.mem_of_getElem? (i := 25) (by decide +kernel)), tb1 11 rfl rfl, tb3 227 rfl rfl, ⟨by decide +kernel, by decide +kernel, by decide +kernel⟩, by decide⟩
theorem mwX5_263 : zMv RX5 263 mX5_readIf 1 := ⟨tb3 228 rfl rfl, tb3 230 rfl rfl, tb_pv (q := (yX5_readIf, 11)) (List.mem_of_getElem? (i := 26) (by decide +kernel)), tb1 11 rfl rfl, tb3 231 rfl rfl, ⟨by decide +kernel, by decide +kernel, by decide +kernel⟩, by decide⟩
theorem mwX5_266 : zMv RX5 266 mX5_readPair 2 := ⟨tb4 16 rfl rfl, tb4 18 rfl rfl, tb_pv (q := (yX5_readPair, 11)) (List.mem_of_getElem? (i := 32) (by decide +kernel)), tb1 11 rfl rfl, tb4 19 rfl rfl, ⟨by decide +kernel, by decide +kernel, by decide +kernel⟩, by decide⟩
theorem mwX5_269 : zMv RX5 269 mX5_readTest 1 := ⟨tb3 232 rfl rfl, tb3 234 rfl rfl, tb_pv (q := (yX5_readTest, 11)) (List.mem_of_getElem? (i := 27) (by decide +kernel)), tb1 11 rfl rfl, tb3 235 rfl rfl, ⟨by decide +kernel, by decide +kernel, by decide +kernel⟩, by decide⟩
theorem mwX5_272 : zMv RX5 272 mX8_landHere 1 := ⟨tb4 12 rfl rfl, tb4 13 rfl rfl, tb4 14 rfl rfl, tb1 7 rfl rfl, tb4 15 rfl rfl, ⟨by decide +kernel, by decide +kernel, by decide +kernel⟩, by decide⟩
theorem mwX5_275 : zMv RX5 275 mX5_readBoth 1 := ⟨tb3 236 rfl rfl, tb3 238 rfl rfl, tb_pv (q := (yX5_readBoth, 11)) (List.mem_of_getElem? (i := 28) (by decide +kernel)), tb1 11 rfl rfl, tb3 239 rfl rfl, ⟨by decide +kernel, by decide +kernel, by decide +kernel⟩, by decide⟩
theorem mwX5_278 : zMv RX5 278 mX5_readFact 1 := ⟨tb4 0 rfl rfl, tb4 2 rfl rfl, tb_pv (q := (yX5_readFact, 11)) (List.mem_of_getElem? (i := 29) (by decide +kernel)), tb1 11 rfl rfl, tb4 3 rfl rfl, ⟨by decide +kernel, by decide +kernel, by decide +kernel⟩, by decide⟩
theorem mwX5_281 : zMv RX5 281 mX5_readNot 1 := ⟨tb4 4 rfl rfl, tb4 6 rfl rfl, tb_pv (q := (yX5_readNot, 11)) (List.mem_of_getElem? (i := 30) (by decide +kernel)), tb1 11 rfl rfl, tb4 7 rfl rfl, ⟨by decide +kernel, by decide +kernel, by decide +kernel⟩, by decide⟩
theorem mwX5_284 : zMv RX5 284 mX5_readCompared 1 := ⟨tb4 8 rfl rfl, tb4 10 rfl rfl, tb_pv (q := (yX5_readCompared, 11)) (List.mem_of_getElem? (i := 31) (by decide +kernel)), tb1 11 rfl rfl, tb4 11 rfl rfl, ⟨by decide +kernel, by decide +kernel, by decide +kernel⟩, by decide⟩
theorem moX6_3 : Cond.methodLink RX6 3 Lib.objectInit ∈ TB ∧ Cond.instanceMethod Lib.objectInit ∈ TB ∧ Cond.code Lib.objectInit ⟨#[0xb1]⟩ 1 none ∈ TB := ⟨tb1 84 rfl rfl, tb1 28 rfl rfl, tb1 29 rfl rfl⟩
theorem miX6_60 : zMi RX6 60 mX8_init 0 := ⟨Or.inr ⟨"BreathRoad", List.mem_of_getElem? (i := 4) rfl⟩, rfl, rfl, tb1 88 rfl rfl, tb1 7 rfl rfl, tb1 89 rfl rfl, ⟨by decide +kernel, by decide +kernel, by decide +kernel⟩, by decide⟩
theorem mwX6_65 : zMs RX6 65 mJ7_fill_53178 2 := ⟨tb2 226 rfl rfl, tb2 227 rfl rfl, tb1 17 rfl rfl, tb2 228 rfl rfl, ⟨by decide +kernel, by decide +kernel, by decide +kernel⟩, by decide⟩
theorem mwX6_71 : zMv RX6 71 mX8_clear 0 := ⟨tb2 229 rfl rfl, tb2 230 rfl rfl, tb2 231 rfl rfl, tb1 7 rfl rfl, tb2 232 rfl rfl, ⟨by decide +kernel, by decide +kernel, by decide +kernel⟩, by decide⟩
theorem mwX6_74 : zMv RX6 74 mX6_hasHolder 1 := ⟨tb3 179 rfl rfl, tb3 180 rfl rfl, tb3 181 rfl rfl, tb1 6 rfl rfl, tb3 182 rfl rfl, ⟨by decide +kernel, by decide +kernel, by decide +kernel⟩, by decide⟩
theorem mwX6_78 : zMv RX6 78 mX6_hasTunnel 1 := ⟨tb3 183 rfl rfl, tb3 184 rfl rfl, tb3 185 rfl rfl, tb1 6 rfl rfl, tb3 186 rfl rfl, ⟨by decide +kernel, by decide +kernel, by decide +kernel⟩, by decide⟩
theorem mwX6_81 : zMt RX6 81 mX10_valueAt 2 := ⟨⟨"BreathRoad", List.mem_of_getElem? (i := 8) rfl⟩, tb3 144 rfl rfl, tb1 1 rfl rfl, tb3 145 rfl rfl, ⟨by decide +kernel, by decide +kernel, by decide +kernel⟩, by decide⟩
theorem mwX6_85 : zMv RX6 85 mX6_lengthCount 1 := ⟨tb3 150 rfl rfl, tb3 140 rfl rfl, tb3 141 rfl rfl, tb1 6 rfl rfl, tb3 142 rfl rfl, ⟨by decide +kernel, by decide +kernel, by decide +kernel⟩, by decide⟩
theorem mwX6_89 : zMv RX6 89 mX6_lengthAt 2 := ⟨tb3 151 rfl rfl, tb3 152 rfl rfl, tb3 153 rfl rfl, tb1 6 rfl rfl, tb3 154 rfl rfl, ⟨by decide +kernel, by decide +kernel, by decide +kernel⟩, by decide⟩
theorem mwX6_93 : zMv RX6 93 mX6_weightAt 2 := ⟨tb4 72 rfl rfl, tb4 65 rfl rfl, tb4 66 rfl rfl, tb1 6 rfl rfl, tb4 67 rfl rfl, ⟨by decide +kernel, by decide +kernel, by decide +kernel⟩, by decide⟩
theorem mwX6_96 : zMs RX6 96 mX6_find 3 := ⟨tb3 119 rfl rfl, tb3 33 rfl rfl, tb1 6 rfl rfl, tb3 34 rfl rfl, ⟨by decide +kernel, by decide +kernel, by decide +kernel⟩, by decide⟩
theorem moX7_5 : Cond.methodLink RX7 5 Lib.objectInit ∈ TB ∧ Cond.instanceMethod Lib.objectInit ∈ TB ∧ Cond.code Lib.objectInit ⟨#[0xb1]⟩ 1 none ∈ TB := ⟨tb1 53 rfl rfl, tb1 28 rfl rfl, tb1 29 rfl rfl⟩
theorem mcX7_26 : Cond.methodLink RX7 26 arraycopyName ∈ TB ∧ Cond.native arraycopyName ∈ TB ∧ Cond.static arraycopyName ∈ TB ∧ Cond.initialized "java/lang/System" ∈ TB := ⟨tb4 24 rfl rfl, tb4 26 rfl rfl, tb4 25 rfl rfl, tb1 20 rfl rfl⟩
theorem mwX7_32 : zMt RX7 32 mX10_valueAt 2 := ⟨⟨"BreathRoad", List.mem_of_getElem? (i := 10) rfl⟩, tb3 144 rfl rfl, tb1 1 rfl rfl, tb3 145 rfl rfl, ⟨by decide +kernel, by decide +kernel, by decide +kernel⟩, by decide⟩
theorem mwX7_36 : zMt RX7 36 mX10_setAt 3 := ⟨⟨"BreathRoad", List.mem_of_getElem? (i := 21) rfl⟩, tb3 125 rfl rfl, tb1 1 rfl rfl, tb3 126 rfl rfl, ⟨by decide +kernel, by decide +kernel, by decide +kernel⟩, by decide⟩
theorem mwX7_40 : zMv RX7 40 mX7_scoreOf 1 := ⟨tb5 144 rfl rfl, tb4 95 rfl rfl, tb4 96 rfl rfl, tb1 3 rfl rfl, tb4 97 rfl rfl, ⟨by decide +kernel, by decide +kernel, by decide +kernel⟩, by decide⟩
theorem mwX7_46 : zMt RX7 46 mX10_within 3 := ⟨⟨"BreathRoad", List.mem_of_getElem? (i := 20) rfl⟩, tb4 184 rfl rfl, tb1 1 rfl rfl, tb4 185 rfl rfl, ⟨by decide +kernel, by decide +kernel, by decide +kernel⟩, by decide⟩
theorem mwX7_50 : zMv RX7 50 mX7_setScore 2 := ⟨tb5 148 rfl rfl, tb5 149 rfl rfl, tb5 150 rfl rfl, tb1 3 rfl rfl, tb5 151 rfl rfl, ⟨by decide +kernel, by decide +kernel, by decide +kernel⟩, by decide⟩
theorem mwX7_54 : zMs RX7 54 mJ9_min_7cf53 2 := ⟨tb4 47 rfl rfl, tb3 63 rfl rfl, tb1 18 rfl rfl, tb3 64 rfl rfl, ⟨by decide +kernel, by decide +kernel, by decide +kernel⟩, by decide⟩
theorem mwX7_60 : zMv RX7 60 mX7_keptCount 0 := ⟨tb5 210 rfl rfl, tb4 44 rfl rfl, tb4 45 rfl rfl, tb1 3 rfl rfl, tb4 46 rfl rfl, ⟨by decide +kernel, by decide +kernel, by decide +kernel⟩, by decide⟩
theorem moX8_3 : Cond.methodLink RX8 3 Lib.objectInit ∈ TB ∧ Cond.instanceMethod Lib.objectInit ∈ TB ∧ Cond.code Lib.objectInit ⟨#[0xb1]⟩ 1 none ∈ TB := ⟨tb1 90 rfl rfl, tb1 28 rfl rfl, tb1 29 rfl rfl⟩
theorem mwX8_31 : zMs RX8 31 mJ7_fill_53178 2 := ⟨tb2 233 rfl rfl, tb2 227 rfl rfl, tb1 17 rfl rfl, tb2 228 rfl rfl, ⟨by decide +kernel, by decide +kernel, by decide +kernel⟩, by decide⟩
theorem mwX8_37 : zMt RX8 37 mX10_valueAt 2 := ⟨⟨"BreathRoad", List.mem_of_getElem? (i := 9) rfl⟩, tb3 144 rfl rfl, tb1 1 rfl rfl, tb3 145 rfl rfl, ⟨by decide +kernel, by decide +kernel, by decide +kernel⟩, by decide⟩
theorem mwX8_41 : zMs RX8 41 mJ9_min_7cf53 2 := ⟨tb4 157 rfl rfl, tb3 63 rfl rfl, tb1 18 rfl rfl, tb3 64 rfl rfl, ⟨by decide +kernel, by decide +kernel, by decide +kernel⟩, by decide⟩
theorem mwX8_47 : zMs RX8 47 mJ9_max_7cf53 2 := ⟨tb4 158 rfl rfl, tb3 60 rfl rfl, tb1 18 rfl rfl, tb3 61 rfl rfl, ⟨by decide +kernel, by decide +kernel, by decide +kernel⟩, by decide⟩
theorem mwX8_50 : zMv RX8 50 mX8_push 1 := ⟨tb4 159 rfl rfl, tb4 161 rfl rfl, tb_pv (q := (yX8_push, 6)) (List.mem_of_getElem? (i := 35) (by decide +kernel)), tb1 7 rfl rfl, tb4 162 rfl rfl, ⟨by decide +kernel, by decide +kernel, by decide +kernel⟩, by decide⟩
theorem mwX8_54 : zMv RX8 54 mX8_pop 0 := ⟨tb4 163 rfl rfl, tb4 165 rfl rfl, tb_pv (q := (yX8_pop, 6)) (List.mem_of_getElem? (i := 36) (by decide +kernel)), tb1 7 rfl rfl, tb4 166 rfl rfl, ⟨by decide +kernel, by decide +kernel, by decide +kernel⟩, by decide⟩
theorem mwX8_58 : zMs RX8 58 mX8_joined 3 := ⟨tb4 167 rfl rfl, tb4 168 rfl rfl, tb1 7 rfl rfl, tb4 169 rfl rfl, ⟨by decide +kernel, by decide +kernel, by decide +kernel⟩, by decide⟩
theorem mwX8_62 : zMs RX8 62 mX8_bounded 1 := ⟨tb4 176 rfl rfl, tb4 177 rfl rfl, tb1 7 rfl rfl, tb4 178 rfl rfl, ⟨by decide +kernel, by decide +kernel, by decide +kernel⟩, by decide⟩
theorem mwX8_66 : zMs RX8 66 mJ9_floorDiv_7cf53 2 := ⟨tb4 170 rfl rfl, tb4 171 rfl rfl, tb1 18 rfl rfl, tb4 172 rfl rfl, ⟨by decide +kernel, by decide +kernel, by decide +kernel⟩, by decide⟩
theorem mwX8_69 : zMs RX8 69 mJ9_floorMod_7cf53 2 := ⟨tb4 173 rfl rfl, tb4 174 rfl rfl, tb1 18 rfl rfl, tb4 175 rfl rfl, ⟨by decide +kernel, by decide +kernel, by decide +kernel⟩, by decide⟩
theorem moX9_3 : Cond.methodLink RX9 3 Lib.objectInit ∈ TB ∧ Cond.instanceMethod Lib.objectInit ∈ TB ∧ Cond.code Lib.objectInit ⟨#[0xb1]⟩ 1 none ∈ TB := ⟨tb1 35 rfl rfl, tb1 28 rfl rfl, tb1 29 rfl rfl⟩
theorem miL_9 : zMi RL 9 mX10_init 0 := ⟨Or.inl (tb1 24 rfl rfl), rfl, rfl, tb1 25 rfl rfl, tb1 1 rfl rfl, tb1 26 rfl rfl, ⟨by decide +kernel, by decide +kernel, by decide +kernel⟩, by decide⟩
theorem miL_12 : zMi RL 12 mX11_init 0 := ⟨Or.inl (tb6 35 rfl rfl), rfl, rfl, tb6 36 rfl rfl, tb1 16 rfl rfl, tb6 37 rfl rfl, ⟨by decide +kernel, by decide +kernel, by decide +kernel⟩, by decide⟩
theorem mwL_13 : zMv RL 13 mX10_feed 5 := ⟨tb2 198 rfl rfl, tb2 199 rfl rfl, tb2 200 rfl rfl, tb1 1 rfl rfl, tb2 201 rfl rfl, ⟨by decide +kernel, by decide +kernel, by decide +kernel⟩, by decide⟩
theorem mwL_17 : zMv RL 17 mX11_feed 5 := ⟨tb7 38 rfl rfl, tb7 39 rfl rfl, tb7 40 rfl rfl, tb1 16 rfl rfl, tb7 41 rfl rfl, ⟨by decide +kernel, by decide +kernel, by decide +kernel⟩, by decide⟩
theorem mwL_18 : zMv RL 18 mX10_end 1 := ⟨tb2 210 rfl rfl, tb2 211 rfl rfl, tb2 212 rfl rfl, tb1 1 rfl rfl, tb2 213 rfl rfl, ⟨by decide +kernel, by decide +kernel, by decide +kernel⟩, by decide⟩
theorem mwL_22 : zMv RL 22 mX11_end 1 := ⟨tb7 50 rfl rfl, tb7 51 rfl rfl, tb7 52 rfl rfl, tb1 16 rfl rfl, tb7 53 rfl rfl, ⟨by decide +kernel, by decide +kernel, by decide +kernel⟩, by decide⟩
theorem mwL_23 : zMv RL 23 mX10_road 0 := ⟨tb2 214 rfl rfl, tb2 215 rfl rfl, tb2 216 rfl rfl, tb1 1 rfl rfl, tb2 217 rfl rfl, ⟨by decide +kernel, by decide +kernel, by decide +kernel⟩, by decide⟩
theorem mwL_27 : zMv RL 27 mX11_road 0 := ⟨tb7 54 rfl rfl, tb7 55 rfl rfl, tb7 56 rfl rfl, tb1 16 rfl rfl, tb7 57 rfl rfl, ⟨by decide +kernel, by decide +kernel, by decide +kernel⟩, by decide⟩
theorem mwL_28 : zMv RL 28 mX10_fault 1 := ⟨tb4 31 rfl rfl, tb4 32 rfl rfl, tb4 33 rfl rfl, tb1 1 rfl rfl, tb4 34 rfl rfl, ⟨by decide +kernel, by decide +kernel, by decide +kernel⟩, by decide⟩
theorem mwL_32 : zMv RL 32 mX11_fault 1 := ⟨tb7 234 rfl rfl, tb7 235 rfl rfl, tb7 236 rfl rfl, tb1 16 rfl rfl, tb7 237 rfl rfl, ⟨by decide +kernel, by decide +kernel, by decide +kernel⟩, by decide⟩
theorem mwL_33 : zMv RL 33 mX10_has 1 := ⟨tb4 35 rfl rfl, tb4 36 rfl rfl, tb4 37 rfl rfl, tb1 1 rfl rfl, tb4 38 rfl rfl, ⟨by decide +kernel, by decide +kernel, by decide +kernel⟩, by decide⟩
theorem mwL_36 : zMv RL 36 mX11_has 1 := ⟨tb8 14 rfl rfl, tb8 15 rfl rfl, tb8 16 rfl rfl, tb1 16 rfl rfl, tb8 17 rfl rfl, ⟨by decide +kernel, by decide +kernel, by decide +kernel⟩, by decide⟩
theorem mwL_37 : zMv RL 37 mX10_letter 3 := ⟨tb4 48 rfl rfl, tb4 49 rfl rfl, tb4 50 rfl rfl, tb1 1 rfl rfl, tb4 51 rfl rfl, ⟨by decide +kernel, by decide +kernel, by decide +kernel⟩, by decide⟩
theorem mwL_41 : zMv RL 41 mX11_letter 3 := ⟨tb8 18 rfl rfl, tb8 19 rfl rfl, tb8 20 rfl rfl, tb1 16 rfl rfl, tb8 21 rfl rfl, ⟨by decide +kernel, by decide +kernel, by decide +kernel⟩, by decide⟩
theorem mwL_42 : zMv RL 42 mX10_tunnel 2 := ⟨tb4 58 rfl rfl, tb4 59 rfl rfl, tb4 60 rfl rfl, tb1 1 rfl rfl, tb4 61 rfl rfl, ⟨by decide +kernel, by decide +kernel, by decide +kernel⟩, by decide⟩
theorem mwL_46 : zMv RL 46 mX11_tunnel 2 := ⟨tb8 23 rfl rfl, tb8 24 rfl rfl, tb8 25 rfl rfl, tb1 16 rfl rfl, tb8 26 rfl rfl, ⟨by decide +kernel, by decide +kernel, by decide +kernel⟩, by decide⟩
theorem mwL_47 : zMv RL 47 mX10_holder 2 := ⟨tb4 73 rfl rfl, tb4 74 rfl rfl, tb4 75 rfl rfl, tb1 1 rfl rfl, tb4 76 rfl rfl, ⟨by decide +kernel, by decide +kernel, by decide +kernel⟩, by decide⟩
theorem mwL_50 : zMv RL 50 mX11_holder 2 := ⟨tb8 47 rfl rfl, tb8 48 rfl rfl, tb8 49 rfl rfl, tb1 16 rfl rfl, tb8 50 rfl rfl, ⟨by decide +kernel, by decide +kernel, by decide +kernel⟩, by decide⟩
theorem mwL_51 : zMv RL 51 mX10_score 1 := ⟨tb4 90 rfl rfl, tb4 91 rfl rfl, tb4 92 rfl rfl, tb1 1 rfl rfl, tb4 93 rfl rfl, ⟨by decide +kernel, by decide +kernel, by decide +kernel⟩, by decide⟩
theorem mwL_54 : zMv RL 54 mX11_score 1 := ⟨tb8 55 rfl rfl, tb8 56 rfl rfl, tb8 57 rfl rfl, tb1 16 rfl rfl, tb8 58 rfl rfl, ⟨by decide +kernel, by decide +kernel, by decide +kernel⟩, by decide⟩
theorem mwL_55 : zMv RL 55 mX10_likely 2 := ⟨tb4 99 rfl rfl, tb4 100 rfl rfl, tb4 101 rfl rfl, tb1 1 rfl rfl, tb4 102 rfl rfl, ⟨by decide +kernel, by decide +kernel, by decide +kernel⟩, by decide⟩
theorem mwL_58 : zMv RL 58 mX11_likely 2 := ⟨tb8 60 rfl rfl, tb8 61 rfl rfl, tb8 62 rfl rfl, tb1 16 rfl rfl, tb8 63 rfl rfl, ⟨by decide +kernel, by decide +kernel, by decide +kernel⟩, by decide⟩
theorem mwL_59 : zMv RL 59 mX10_holds 3 := ⟨tb4 110 rfl rfl, tb4 111 rfl rfl, tb4 112 rfl rfl, tb1 1 rfl rfl, tb4 113 rfl rfl, ⟨by decide +kernel, by decide +kernel, by decide +kernel⟩, by decide⟩
theorem mwL_62 : zMv RL 62 mX11_holds 3 := ⟨tb8 64 rfl rfl, tb8 65 rfl rfl, tb8 66 rfl rfl, tb1 16 rfl rfl, tb8 67 rfl rfl, ⟨by decide +kernel, by decide +kernel, by decide +kernel⟩, by decide⟩
theorem mwL_63 : zMv RL 63 mX10_made 2 := ⟨tb4 126 rfl rfl, tb4 127 rfl rfl, tb4 128 rfl rfl, tb1 1 rfl rfl, tb4 129 rfl rfl, ⟨by decide +kernel, by decide +kernel, by decide +kernel⟩, by decide⟩
theorem mwL_66 : zMv RL 66 mX11_made 2 := ⟨tb8 79 rfl rfl, tb8 80 rfl rfl, tb8 81 rfl rfl, tb1 16 rfl rfl, tb8 82 rfl rfl, ⟨by decide +kernel, by decide +kernel, by decide +kernel⟩, by decide⟩
theorem mwL_67 : zMv RL 67 mX10_worth 3 := ⟨tb4 130 rfl rfl, tb4 131 rfl rfl, tb4 132 rfl rfl, tb1 1 rfl rfl, tb4 133 rfl rfl, ⟨by decide +kernel, by decide +kernel, by decide +kernel⟩, by decide⟩
theorem mwL_70 : zMv RL 70 mX11_worth 3 := ⟨tb8 83 rfl rfl, tb8 84 rfl rfl, tb8 85 rfl rfl, tb1 16 rfl rfl, tb8 86 rfl rfl, ⟨by decide +kernel, by decide +kernel, by decide +kernel⟩, by decide⟩
theorem mwL_71 : zMv RL 71 mX10_tired 4 := ⟨tb4 188 rfl rfl, tb4 189 rfl rfl, tb4 190 rfl rfl, tb1 1 rfl rfl, tb4 191 rfl rfl, ⟨by decide +kernel, by decide +kernel, by decide +kernel⟩, by decide⟩
theorem mwL_75 : zMv RL 75 mX11_tired 4 := ⟨tb8 129 rfl rfl, tb8 130 rfl rfl, tb8 131 rfl rfl, tb1 16 rfl rfl, tb8 132 rfl rfl, ⟨by decide +kernel, by decide +kernel, by decide +kernel⟩, by decide⟩
theorem mwL_76 : zMv RL 76 mX10_alone 3 := ⟨tb4 197 rfl rfl, tb4 198 rfl rfl, tb4 199 rfl rfl, tb1 1 rfl rfl, tb4 200 rfl rfl, ⟨by decide +kernel, by decide +kernel, by decide +kernel⟩, by decide⟩
theorem mwL_79 : zMv RL 79 mX11_alone 3 := ⟨tb8 137 rfl rfl, tb8 138 rfl rfl, tb8 139 rfl rfl, tb1 16 rfl rfl, tb8 140 rfl rfl, ⟨by decide +kernel, by decide +kernel, by decide +kernel⟩, by decide⟩
theorem mwL_80 : zMv RL 80 mX10_on 3 := ⟨tb5 9 rfl rfl, tb5 10 rfl rfl, tb5 11 rfl rfl, tb1 1 rfl rfl, tb5 12 rfl rfl, ⟨by decide +kernel, by decide +kernel, by decide +kernel⟩, by decide⟩
theorem mwL_83 : zMv RL 83 mX11_on 3 := ⟨tb8 154 rfl rfl, tb8 155 rfl rfl, tb8 156 rfl rfl, tb1 16 rfl rfl, tb8 157 rfl rfl, ⟨by decide +kernel, by decide +kernel, by decide +kernel⟩, by decide⟩
theorem mwL_84 : zMv RL 84 mX10_rest 2 := ⟨tb5 13 rfl rfl, tb5 14 rfl rfl, tb5 15 rfl rfl, tb1 1 rfl rfl, tb5 16 rfl rfl, ⟨by decide +kernel, by decide +kernel, by decide +kernel⟩, by decide⟩
theorem mwL_87 : zMv RL 87 mX11_rest 2 := ⟨tb8 162 rfl rfl, tb8 163 rfl rfl, tb8 164 rfl rfl, tb1 16 rfl rfl, tb8 165 rfl rfl, ⟨by decide +kernel, by decide +kernel, by decide +kernel⟩, by decide⟩
theorem mwL_88 : zMv RL 88 mX10_hidden 3 := ⟨tb5 33 rfl rfl, tb5 34 rfl rfl, tb5 35 rfl rfl, tb1 1 rfl rfl, tb5 36 rfl rfl, ⟨by decide +kernel, by decide +kernel, by decide +kernel⟩, by decide⟩
theorem mwL_91 : zMv RL 91 mX11_hidden 3 := ⟨tb8 174 rfl rfl, tb8 175 rfl rfl, tb8 176 rfl rfl, tb1 16 rfl rfl, tb8 177 rfl rfl, ⟨by decide +kernel, by decide +kernel, by decide +kernel⟩, by decide⟩
theorem mwL_92 : zMv RL 92 mX10_pace 3 := ⟨tb5 43 rfl rfl, tb5 44 rfl rfl, tb5 45 rfl rfl, tb1 1 rfl rfl, tb5 46 rfl rfl, ⟨by decide +kernel, by decide +kernel, by decide +kernel⟩, by decide⟩
theorem mwL_95 : zMv RL 95 mX11_pace 3 := ⟨tb8 179 rfl rfl, tb8 180 rfl rfl, tb8 181 rfl rfl, tb1 16 rfl rfl, tb8 182 rfl rfl, ⟨by decide +kernel, by decide +kernel, by decide +kernel⟩, by decide⟩
theorem mwL_96 : zMv RL 96 mX10_whom 3 := ⟨tb5 61 rfl rfl, tb5 62 rfl rfl, tb5 63 rfl rfl, tb1 1 rfl rfl, tb5 64 rfl rfl, ⟨by decide +kernel, by decide +kernel, by decide +kernel⟩, by decide⟩
theorem mwL_99 : zMv RL 99 mX11_whom 3 := ⟨tb8 187 rfl rfl, tb8 188 rfl rfl, tb8 189 rfl rfl, tb1 16 rfl rfl, tb8 190 rfl rfl, ⟨by decide +kernel, by decide +kernel, by decide +kernel⟩, by decide⟩
theorem mwL_100 : zMv RL 100 mX10_faces 1 := ⟨tb5 76 rfl rfl, tb5 77 rfl rfl, tb5 78 rfl rfl, tb1 1 rfl rfl, tb5 79 rfl rfl, ⟨by decide +kernel, by decide +kernel, by decide +kernel⟩, by decide⟩
theorem mwL_103 : zMv RL 103 mX11_faces 1 := ⟨tb8 191 rfl rfl, tb8 192 rfl rfl, tb8 193 rfl rfl, tb1 16 rfl rfl, tb8 194 rfl rfl, ⟨by decide +kernel, by decide +kernel, by decide +kernel⟩, by decide⟩
theorem mwL_104 : zMv RL 104 mX10_fit 1 := ⟨tb5 90 rfl rfl, tb5 91 rfl rfl, tb5 92 rfl rfl, tb1 1 rfl rfl, tb5 93 rfl rfl, ⟨by decide +kernel, by decide +kernel, by decide +kernel⟩, by decide⟩
theorem mwL_107 : zMv RL 107 mX11_fit 1 := ⟨tb8 195 rfl rfl, tb8 196 rfl rfl, tb8 197 rfl rfl, tb1 16 rfl rfl, tb8 198 rfl rfl, ⟨by decide +kernel, by decide +kernel, by decide +kernel⟩, by decide⟩
theorem mwL_108 : zMv RL 108 mX10_drive 1 := ⟨tb5 106 rfl rfl, tb5 107 rfl rfl, tb5 108 rfl rfl, tb1 1 rfl rfl, tb5 109 rfl rfl, ⟨by decide +kernel, by decide +kernel, by decide +kernel⟩, by decide⟩
theorem mwL_111 : zMv RL 111 mX11_drive 1 := ⟨tb8 203 rfl rfl, tb8 204 rfl rfl, tb8 205 rfl rfl, tb1 16 rfl rfl, tb8 206 rfl rfl, ⟨by decide +kernel, by decide +kernel, by decide +kernel⟩, by decide⟩
theorem mwL_112 : zMv RL 112 mX10_pause 0 := ⟨tb5 169 rfl rfl, tb5 170 rfl rfl, tb5 171 rfl rfl, tb1 1 rfl rfl, tb5 172 rfl rfl, ⟨by decide +kernel, by decide +kernel, by decide +kernel⟩, by decide⟩
theorem mwL_115 : zMv RL 115 mX11_pause 0 := ⟨tb8 233 rfl rfl, tb8 234 rfl rfl, tb8 235 rfl rfl, tb1 16 rfl rfl, tb8 236 rfl rfl, ⟨by decide +kernel, by decide +kernel, by decide +kernel⟩, by decide⟩
theorem mwL_116 : zMv RL 116 mX10_believe 3 := ⟨tb5 173 rfl rfl, tb5 174 rfl rfl, tb5 175 rfl rfl, tb1 1 rfl rfl, tb5 176 rfl rfl, ⟨by decide +kernel, by decide +kernel, by decide +kernel⟩, by decide⟩
theorem mwL_119 : zMv RL 119 mX11_believe 3 := ⟨tb8 237 rfl rfl, tb8 238 rfl rfl, tb8 239 rfl rfl, tb1 16 rfl rfl, tb9 0 rfl rfl, ⟨by decide +kernel, by decide +kernel, by decide +kernel⟩, by decide⟩
theorem mwL_120 : zMv RL 120 mX10_give 2 := ⟨tb5 182 rfl rfl, tb5 183 rfl rfl, tb5 184 rfl rfl, tb1 1 rfl rfl, tb5 185 rfl rfl, ⟨by decide +kernel, by decide +kernel, by decide +kernel⟩, by decide⟩
theorem mwL_123 : zMv RL 123 mX11_give 2 := ⟨tb9 1 rfl rfl, tb9 2 rfl rfl, tb9 3 rfl rfl, tb1 16 rfl rfl, tb9 4 rfl rfl, ⟨by decide +kernel, by decide +kernel, by decide +kernel⟩, by decide⟩
theorem mwL_124 : zMv RL 124 mX10_undo 0 := ⟨tb5 190 rfl rfl, tb5 191 rfl rfl, tb5 192 rfl rfl, tb1 1 rfl rfl, tb5 193 rfl rfl, ⟨by decide +kernel, by decide +kernel, by decide +kernel⟩, by decide⟩
theorem mwL_128 : zMv RL 128 mX11_undo 0 := ⟨tb8 2 rfl rfl, tb8 3 rfl rfl, tb8 4 rfl rfl, tb1 16 rfl rfl, tb8 5 rfl rfl, ⟨by decide +kernel, by decide +kernel, by decide +kernel⟩, by decide⟩
theorem mwL_129 : zMv RL 129 mX10_seed 1 := ⟨tb5 198 rfl rfl, tb5 199 rfl rfl, tb5 200 rfl rfl, tb1 1 rfl rfl, tb5 201 rfl rfl, ⟨by decide +kernel, by decide +kernel, by decide +kernel⟩, by decide⟩
theorem mwL_132 : zMv RL 132 mX11_seed 1 := ⟨tb9 5 rfl rfl, tb9 6 rfl rfl, tb9 7 rfl rfl, tb1 16 rfl rfl, tb9 8 rfl rfl, ⟨by decide +kernel, by decide +kernel, by decide +kernel⟩, by decide⟩
theorem mwL_133 : zMv RL 133 mX10_kept 2 := ⟨tb5 202 rfl rfl, tb5 203 rfl rfl, tb5 204 rfl rfl, tb1 1 rfl rfl, tb5 205 rfl rfl, ⟨by decide +kernel, by decide +kernel, by decide +kernel⟩, by decide⟩
theorem mwL_136 : zMv RL 136 mX11_kept 2 := ⟨tb9 9 rfl rfl, tb9 10 rfl rfl, tb9 11 rfl rfl, tb1 16 rfl rfl, tb9 12 rfl rfl, ⟨by decide +kernel, by decide +kernel, by decide +kernel⟩, by decide⟩
theorem mwL_137 : zMv RL 137 mX10_image 0 := ⟨tb5 211 rfl rfl, tb5 212 rfl rfl, tb5 213 rfl rfl, tb1 1 rfl rfl, tb5 214 rfl rfl, ⟨by decide +kernel, by decide +kernel, by decide +kernel⟩, by decide⟩
theorem mwL_140 : zMv RL 140 mX11_image 0 := ⟨tb9 13 rfl rfl, tb9 14 rfl rfl, tb9 15 rfl rfl, tb1 16 rfl rfl, tb9 16 rfl rfl, ⟨by decide +kernel, by decide +kernel, by decide +kernel⟩, by decide⟩
theorem mwL_141 : zMv RL 141 mX10_octet 1 := ⟨tb5 232 rfl rfl, tb5 233 rfl rfl, tb5 234 rfl rfl, tb1 1 rfl rfl, tb5 235 rfl rfl, ⟨by decide +kernel, by decide +kernel, by decide +kernel⟩, by decide⟩
theorem mwL_144 : zMv RL 144 mX11_octet 1 := ⟨tb9 22 rfl rfl, tb9 23 rfl rfl, tb9 24 rfl rfl, tb1 16 rfl rfl, tb9 25 rfl rfl, ⟨by decide +kernel, by decide +kernel, by decide +kernel⟩, by decide⟩
theorem mwL_145 : zMv RL 145 mX10_goOn 0 := ⟨tb5 236 rfl rfl, tb5 237 rfl rfl, tb5 238 rfl rfl, tb1 1 rfl rfl, tb5 239 rfl rfl, ⟨by decide +kernel, by decide +kernel, by decide +kernel⟩, by decide⟩
theorem mwL_148 : zMv RL 148 mX11_goOn 0 := ⟨tb9 26 rfl rfl, tb9 27 rfl rfl, tb9 28 rfl rfl, tb1 16 rfl rfl, tb9 29 rfl rfl, ⟨by decide +kernel, by decide +kernel, by decide +kernel⟩, by decide⟩
theorem mwL_149 : zMv RL 149 mX10_status 1 := ⟨tb6 29 rfl rfl, tb6 30 rfl rfl, tb6 31 rfl rfl, tb1 1 rfl rfl, tb6 32 rfl rfl, ⟨by decide +kernel, by decide +kernel, by decide +kernel⟩, by decide⟩
theorem mwL_152 : zMv RL 152 mX11_status 1 := ⟨tb7 238 rfl rfl, tb7 239 rfl rfl, tb8 0 rfl rfl, tb1 16 rfl rfl, tb8 1 rfl rfl, ⟨by decide +kernel, by decide +kernel, by decide +kernel⟩, by decide⟩
theorem moX11_1 : Cond.methodLink RX11 1 Lib.objectInit ∈ TB ∧ Cond.instanceMethod Lib.objectInit ∈ TB ∧ Cond.code Lib.objectInit ⟨#[0xb1]⟩ 1 none ∈ TB := ⟨tb6 38 rfl rfl, tb1 28 rfl rfl, tb1 29 rfl rfl⟩
theorem mwX11_252 : zMv RX11 252 mX11_refuses 1 := ⟨tb7 42 rfl rfl, tb7 44 rfl rfl, tb_pv (q := (yX11_refuses, 79)) (List.mem_of_getElem? (i := 51) (by decide +kernel)), tb1 16 rfl rfl, tb7 45 rfl rfl, ⟨by decide +kernel, by decide +kernel, by decide +kernel⟩, by decide⟩
theorem mwX11_256 : zMv RX11 256 mX11_put 1 := ⟨tb7 46 rfl rfl, tb7 48 rfl rfl, tb_pv (q := (yX11_put, 79)) (List.mem_of_getElem? (i := 52) (by decide +kernel)), tb1 16 rfl rfl, tb7 49 rfl rfl, ⟨by decide +kernel, by decide +kernel, by decide +kernel⟩, by decide⟩
theorem mwX11_260 : zMv RX11 260 mX11_blame 2 := ⟨tb7 76 rfl rfl, tb7 78 rfl rfl, tb_pv (q := (yX11_blame, 79)) (List.mem_of_getElem? (i := 56) (by decide +kernel)), tb1 16 rfl rfl, tb7 79 rfl rfl, ⟨by decide +kernel, by decide +kernel, by decide +kernel⟩, by decide⟩
theorem mwX11_264 : zMs RX11 264 mX11_isLetter 1 := ⟨tb7 62 rfl rfl, tb7 63 rfl rfl, tb1 16 rfl rfl, tb7 64 rfl rfl, ⟨by decide +kernel, by decide +kernel, by decide +kernel⟩, by decide⟩
theorem mwX11_268 : zMs RX11 268 mX11_isDigit 1 := ⟨tb7 65 rfl rfl, tb7 66 rfl rfl, tb1 16 rfl rfl, tb7 67 rfl rfl, ⟨by decide +kernel, by decide +kernel, by decide +kernel⟩, by decide⟩
theorem mwX11_271 : zMv RX11 271 mX11_lex 0 := ⟨tb7 72 rfl rfl, tb7 74 rfl rfl, tb_pv (q := (yX11_lex, 79)) (List.mem_of_getElem? (i := 55) (by decide +kernel)), tb1 16 rfl rfl, tb7 75 rfl rfl, ⟨by decide +kernel, by decide +kernel, by decide +kernel⟩, by decide⟩
theorem mwX11_274 : zMv RX11 274 mX11_isSign 1 := ⟨tb7 191 rfl rfl, tb7 193 rfl rfl, tb_pv (q := (yX11_isSign, 79)) (List.mem_of_getElem? (i := 77) (by decide +kernel)), tb1 16 rfl rfl, tb7 194 rfl rfl, ⟨by decide +kernel, by decide +kernel, by decide +kernel⟩, by decide⟩
theorem mwX11_277 : zMv RX11 277 mX11_ahead 0 := ⟨tb7 58 rfl rfl, tb7 60 rfl rfl, tb_pv (q := (yX11_ahead, 79)) (List.mem_of_getElem? (i := 53) (by decide +kernel)), tb1 16 rfl rfl, tb7 61 rfl rfl, ⟨by decide +kernel, by decide +kernel, by decide +kernel⟩, by decide⟩
theorem mwX11_330 : zMv RX11 330 mX11_manyOf 2 := ⟨tb7 129 rfl rfl, tb7 131 rfl rfl, tb_pv (q := (yX11_manyOf, 79)) (List.mem_of_getElem? (i := 63) (by decide +kernel)), tb1 16 rfl rfl, tb7 132 rfl rfl, ⟨by decide +kernel, by decide +kernel, by decide +kernel⟩, by decide⟩
theorem mwX11_334 : zMv RX11 334 mX11_nameOf 3 := ⟨tb7 133 rfl rfl, tb7 135 rfl rfl, tb_pv (q := (yX11_nameOf, 79)) (List.mem_of_getElem? (i := 64) (by decide +kernel)), tb1 16 rfl rfl, tb7 136 rfl rfl, ⟨by decide +kernel, by decide +kernel, by decide +kernel⟩, by decide⟩
theorem mwX11_338 : zMs RX11 338 mX11_is 3 := ⟨tb7 149 rfl rfl, tb7 150 rfl rfl, tb1 16 rfl rfl, tb7 151 rfl rfl, ⟨by decide +kernel, by decide +kernel, by decide +kernel⟩, by decide⟩
theorem mwX11_342 : zMv RX11 342 mX11_lookedAt 2 := ⟨tb7 145 rfl rfl, tb7 147 rfl rfl, tb_pv (q := (yX11_lookedAt, 79)) (List.mem_of_getElem? (i := 67) (by decide +kernel)), tb1 16 rfl rfl, tb7 148 rfl rfl, ⟨by decide +kernel, by decide +kernel, by decide +kernel⟩, by decide⟩
theorem mwX11_345 : zMs RX11 345 mX11_rank 1 := ⟨tb7 211 rfl rfl, tb7 212 rfl rfl, tb1 16 rfl rfl, tb7 213 rfl rfl, ⟨by decide +kernel, by decide +kernel, by decide +kernel⟩, by decide⟩
theorem mwX11_348 : zMv RX11 348 mX11_add 2 := ⟨tb7 199 rfl rfl, tb7 201 rfl rfl, tb_pv (q := (yX11_add, 79)) (List.mem_of_getElem? (i := 79) (by decide +kernel)), tb1 16 rfl rfl, tb7 202 rfl rfl, ⟨by decide +kernel, by decide +kernel, by decide +kernel⟩, by decide⟩
theorem mwX11_351 : zMv RX11 351 mX11_pushes 1 := ⟨tb7 176 rfl rfl, tb7 178 rfl rfl, tb_pv (q := (yX11_pushes, 79)) (List.mem_of_getElem? (i := 74) (by decide +kernel)), tb1 16 rfl rfl, tb7 179 rfl rfl, ⟨by decide +kernel, by decide +kernel, by decide +kernel⟩, by decide⟩
theorem mwX11_354 : zMs RX11 354 mX11_isTest 1 := ⟨tb7 184 rfl rfl, tb7 185 rfl rfl, tb1 16 rfl rfl, tb7 186 rfl rfl, ⟨by decide +kernel, by decide +kernel, by decide +kernel⟩, by decide⟩
theorem mwX11_357 : zMv RX11 357 mX11_isWord 1 := ⟨tb7 81 rfl rfl, tb7 83 rfl rfl, tb_pv (q := (yX11_isWord, 79)) (List.mem_of_getElem? (i := 57) (by decide +kernel)), tb1 16 rfl rfl, tb7 84 rfl rfl, ⟨by decide +kernel, by decide +kernel, by decide +kernel⟩, by decide⟩
theorem mwX11_361 : zMv RX11 361 mX11_holdsBack 1 := ⟨tb7 187 rfl rfl, tb7 189 rfl rfl, tb_pv (q := (yX11_holdsBack, 79)) (List.mem_of_getElem? (i := 76) (by decide +kernel)), tb1 16 rfl rfl, tb7 190 rfl rfl, ⟨by decide +kernel, by decide +kernel, by decide +kernel⟩, by decide⟩
theorem mwX11_364 : zMv RX11 364 mX11_opens 1 := ⟨tb7 195 rfl rfl, tb7 197 rfl rfl, tb_pv (q := (yX11_opens, 79)) (List.mem_of_getElem? (i := 78) (by decide +kernel)), tb1 16 rfl rfl, tb7 198 rfl rfl, ⟨by decide +kernel, by decide +kernel, by decide +kernel⟩, by decide⟩
theorem mwX11_367 : zMv RX11 367 mX11_joins 1 := ⟨tb7 207 rfl rfl, tb7 209 rfl rfl, tb_pv (q := (yX11_joins, 79)) (List.mem_of_getElem? (i := 81) (by decide +kernel)), tb1 16 rfl rfl, tb7 210 rfl rfl, ⟨by decide +kernel, by decide +kernel, by decide +kernel⟩, by decide⟩
theorem mwX11_370 : zMv RX11 370 mX11_operand 0 := ⟨tb7 180 rfl rfl, tb7 182 rfl rfl, tb_pv (q := (yX11_operand, 79)) (List.mem_of_getElem? (i := 75) (by decide +kernel)), tb1 16 rfl rfl, tb7 183 rfl rfl, ⟨by decide +kernel, by decide +kernel, by decide +kernel⟩, by decide⟩
theorem mwX11_373 : zMv RX11 373 mX11_goesOn 0 := ⟨tb7 203 rfl rfl, tb7 205 rfl rfl, tb_pv (q := (yX11_goesOn, 79)) (List.mem_of_getElem? (i := 80) (by decide +kernel)), tb1 16 rfl rfl, tb7 206 rfl rfl, ⟨by decide +kernel, by decide +kernel, by decide +kernel⟩, by decide⟩
theorem mwX11_376 : zMv RX11 376 mX11_isOwn 1 := ⟨tb7 97 rfl rfl, tb7 99 rfl rfl, tb_pv (q := (yX11_isOwn, 79)) (List.mem_of_getElem? (i := 61) (by decide +kernel)), tb1 16 rfl rfl, tb7 100 rfl rfl, ⟨by decide +kernel, by decide +kernel, by decide +kernel⟩, by decide⟩
theorem mwX11_379 : zMv RX11 379 mX11_named 2 := ⟨tb7 125 rfl rfl, tb7 127 rfl rfl, tb_pv (q := (yX11_named, 79)) (List.mem_of_getElem? (i := 62) (by decide +kernel)), tb1 16 rfl rfl, tb7 128 rfl rfl, ⟨by decide +kernel, by decide +kernel, by decide +kernel⟩, by decide⟩
theorem mwX11_383 : zMv RX11 383 mX11_counts 1 := ⟨tb7 89 rfl rfl, tb7 91 rfl rfl, tb_pv (q := (yX11_counts, 79)) (List.mem_of_getElem? (i := 59) (by decide +kernel)), tb1 16 rfl rfl, tb7 92 rfl rfl, ⟨by decide +kernel, by decide +kernel, by decide +kernel⟩, by decide⟩
theorem mwX11_387 : zMv RX11 387 mX11_fresh 0 := ⟨tb7 93 rfl rfl, tb7 95 rfl rfl, tb_pv (q := (yX11_fresh, 79)) (List.mem_of_getElem? (i := 60) (by decide +kernel)), tb1 16 rfl rfl, tb7 96 rfl rfl, ⟨by decide +kernel, by decide +kernel, by decide +kernel⟩, by decide⟩
theorem mwX11_391 : zMv RX11 391 mX11_must_ 1 := ⟨tb7 137 rfl rfl, tb7 139 rfl rfl, tb_pv (q := (yX11_must_, 79)) (List.mem_of_getElem? (i := 65) (by decide +kernel)), tb1 16 rfl rfl, tb7 140 rfl rfl, ⟨by decide +kernel, by decide +kernel, by decide +kernel⟩, by decide⟩
theorem mwX11_395 : zMv RX11 395 mX11_number 2 := ⟨tb7 141 rfl rfl, tb7 143 rfl rfl, tb_pv (q := (yX11_number, 79)) (List.mem_of_getElem? (i := 66) (by decide +kernel)), tb1 16 rfl rfl, tb7 144 rfl rfl, ⟨by decide +kernel, by decide +kernel, by decide +kernel⟩, by decide⟩
theorem mwX11_398 : zMv RX11 398 mX11_asked 1 := ⟨tb7 160 rfl rfl, tb7 162 rfl rfl, tb_pv (q := (yX11_asked, 79)) (List.mem_of_getElem? (i := 70) (by decide +kernel)), tb1 16 rfl rfl, tb7 163 rfl rfl, ⟨by decide +kernel, by decide +kernel, by decide +kernel⟩, by decide⟩
theorem mwX11_401 : zMv RX11 401 mX11_reads 1 := ⟨tb7 172 rfl rfl, tb7 174 rfl rfl, tb_pv (q := (yX11_reads, 79)) (List.mem_of_getElem? (i := 73) (by decide +kernel)), tb1 16 rfl rfl, tb7 175 rfl rfl, ⟨by decide +kernel, by decide +kernel, by decide +kernel⟩, by decide⟩
theorem mwX11_405 : zMv RX11 405 mX11_tunnelling 0 := ⟨tb7 85 rfl rfl, tb7 87 rfl rfl, tb_pv (q := (yX11_tunnelling, 79)) (List.mem_of_getElem? (i := 58) (by decide +kernel)), tb1 16 rfl rfl, tb7 88 rfl rfl, ⟨by decide +kernel, by decide +kernel, by decide +kernel⟩, by decide⟩
theorem mwX11_408 : zMv RX11 408 mX11_holdering 0 := ⟨tb7 152 rfl rfl, tb7 154 rfl rfl, tb_pv (q := (yX11_holdering, 79)) (List.mem_of_getElem? (i := 68) (by decide +kernel)), tb1 16 rfl rfl, tb7 155 rfl rfl, ⟨by decide +kernel, by decide +kernel, by decide +kernel⟩, by decide⟩
theorem mwX11_411 : zMv RX11 411 mX11_thinking 0 := ⟨tb7 156 rfl rfl, tb7 158 rfl rfl, tb_pv (q := (yX11_thinking, 79)) (List.mem_of_getElem? (i := 69) (by decide +kernel)), tb1 16 rfl rfl, tb7 159 rfl rfl, ⟨by decide +kernel, by decide +kernel, by decide +kernel⟩, by decide⟩
theorem mwX11_414 : zMv RX11 414 mX11_giving 0 := ⟨tb7 164 rfl rfl, tb7 166 rfl rfl, tb_pv (q := (yX11_giving, 79)) (List.mem_of_getElem? (i := 71) (by decide +kernel)), tb1 16 rfl rfl, tb7 167 rfl rfl, ⟨by decide +kernel, by decide +kernel, by decide +kernel⟩, by decide⟩
theorem mwX11_417 : zMv RX11 417 mX11_worthing 0 := ⟨tb7 168 rfl rfl, tb7 170 rfl rfl, tb_pv (q := (yX11_worthing, 79)) (List.mem_of_getElem? (i := 72) (by decide +kernel)), tb1 16 rfl rfl, tb7 171 rfl rfl, ⟨by decide +kernel, by decide +kernel, by decide +kernel⟩, by decide⟩
theorem mwX11_420 : zMv RX11 420 mX11_tiring 0 := ⟨tb7 214 rfl rfl, tb7 216 rfl rfl, tb_pv (q := (yX11_tiring, 79)) (List.mem_of_getElem? (i := 82) (by decide +kernel)), tb1 16 rfl rfl, tb7 217 rfl rfl, ⟨by decide +kernel, by decide +kernel, by decide +kernel⟩, by decide⟩
theorem mwX11_423 : zMv RX11 423 mX11_telling 1 := ⟨tb7 218 rfl rfl, tb7 220 rfl rfl, tb_pv (q := (yX11_telling, 79)) (List.mem_of_getElem? (i := 83) (by decide +kernel)), tb1 16 rfl rfl, tb7 221 rfl rfl, ⟨by decide +kernel, by decide +kernel, by decide +kernel⟩, by decide⟩
theorem mwX11_426 : zMv RX11 426 mX11_must 1 := ⟨tb7 226 rfl rfl, tb7 228 rfl rfl, tb_pv (q := (yX11_must, 79)) (List.mem_of_getElem? (i := 85) (by decide +kernel)), tb1 16 rfl rfl, tb7 229 rfl rfl, ⟨by decide +kernel, by decide +kernel, by decide +kernel⟩, by decide⟩
theorem mwX11_428 : zMv RX11 428 mX11_statement 0 := ⟨tb7 68 rfl rfl, tb7 70 rfl rfl, tb_pv (q := (yX11_statement, 79)) (List.mem_of_getElem? (i := 54) (by decide +kernel)), tb1 16 rfl rfl, tb7 71 rfl rfl, ⟨by decide +kernel, by decide +kernel, by decide +kernel⟩, by decide⟩
theorem mwX11_431 : zMv RX11 431 mX11_finishes 1 := ⟨tb7 222 rfl rfl, tb7 224 rfl rfl, tb_pv (q := (yX11_finishes, 79)) (List.mem_of_getElem? (i := 84) (by decide +kernel)), tb1 16 rfl rfl, tb7 225 rfl rfl, ⟨by decide +kernel, by decide +kernel, by decide +kernel⟩, by decide⟩
theorem mwX11_434 : zMv RX11 434 mX11_begin 0 := ⟨tb7 230 rfl rfl, tb7 232 rfl rfl, tb_pv (q := (yX11_begin, 79)) (List.mem_of_getElem? (i := 86) (by decide +kernel)), tb1 16 rfl rfl, tb7 233 rfl rfl, ⟨by decide +kernel, by decide +kernel, by decide +kernel⟩, by decide⟩
theorem mwX11_437 : zMv RX11 437 mX11_lengthsOf 1 := ⟨tb8 31 rfl rfl, tb8 33 rfl rfl, tb_pv (q := (yX11_lengthsOf, 79)) (List.mem_of_getElem? (i := 90) (by decide +kernel)), tb1 16 rfl rfl, tb8 34 rfl rfl, ⟨by decide +kernel, by decide +kernel, by decide +kernel⟩, by decide⟩
theorem mwX11_440 : zMv RX11 440 mX11_weightAt 2 := ⟨tb8 39 rfl rfl, tb8 41 rfl rfl, tb_pv (q := (yX11_weightAt, 79)) (List.mem_of_getElem? (i := 92) (by decide +kernel)), tb1 16 rfl rfl, tb8 42 rfl rfl, ⟨by decide +kernel, by decide +kernel, by decide +kernel⟩, by decide⟩
theorem mwX11_443 : zMv RX11 443 mX11_ring 1 := ⟨tb8 6 rfl rfl, tb8 8 rfl rfl, tb_pv (q := (yX11_ring, 79)) (List.mem_of_getElem? (i := 87) (by decide +kernel)), tb1 16 rfl rfl, tb8 9 rfl rfl, ⟨by decide +kernel, by decide +kernel, by decide +kernel⟩, by decide⟩
theorem mwX11_446 : zMv RX11 446 mX11_copies 2 := ⟨tb8 10 rfl rfl, tb8 12 rfl rfl, tb_pv (q := (yX11_copies, 79)) (List.mem_of_getElem? (i := 88) (by decide +kernel)), tb1 16 rfl rfl, tb8 13 rfl rfl, ⟨by decide +kernel, by decide +kernel, by decide +kernel⟩, by decide⟩
theorem mwX11_453 : zMs RX11 453 mX11_held 1 := ⟨tb8 118 rfl rfl, tb8 119 rfl rfl, tb1 16 rfl rfl, tb8 120 rfl rfl, ⟨by decide +kernel, by decide +kernel, by decide +kernel⟩, by decide⟩
theorem mwX11_457 : zMs RX11 457 mX11_floor 2 := ⟨tb8 123 rfl rfl, tb8 124 rfl rfl, tb1 16 rfl rfl, tb8 125 rfl rfl, ⟨by decide +kernel, by decide +kernel, by decide +kernel⟩, by decide⟩
theorem mwX11_461 : zMv RX11 461 mX11_part 2 := ⟨tb8 111 rfl rfl, tb8 113 rfl rfl, tb_pv (q := (yX11_part, 79)) (List.mem_of_getElem? (i := 103) (by decide +kernel)), tb1 16 rfl rfl, tb8 114 rfl rfl, ⟨by decide +kernel, by decide +kernel, by decide +kernel⟩, by decide⟩
theorem mwX11_465 : zMs RX11 465 mX11_two 3 := ⟨tb8 115 rfl rfl, tb8 116 rfl rfl, tb1 16 rfl rfl, tb8 117 rfl rfl, ⟨by decide +kernel, by decide +kernel, by decide +kernel⟩, by decide⟩
theorem mwX11_469 : zMv RX11 469 mX11_reckons 2 := ⟨tb8 107 rfl rfl, tb8 109 rfl rfl, tb_pv (q := (yX11_reckons, 79)) (List.mem_of_getElem? (i := 102) (by decide +kernel)), tb1 16 rfl rfl, tb8 110 rfl rfl, ⟨by decide +kernel, by decide +kernel, by decide +kernel⟩, by decide⟩
theorem mwX11_472 : zMs RX11 472 mX11_between 3 := ⟨tb8 126 rfl rfl, tb8 127 rfl rfl, tb1 16 rfl rfl, tb8 128 rfl rfl, ⟨by decide +kernel, by decide +kernel, by decide +kernel⟩, by decide⟩
theorem mwX11_476 : zMv RX11 476 mX11_asks 6 := ⟨tb8 99 rfl rfl, tb8 101 rfl rfl, tb_pv (q := (yX11_asks, 79)) (List.mem_of_getElem? (i := 100) (by decide +kernel)), tb1 16 rfl rfl, tb8 102 rfl rfl, ⟨by decide +kernel, by decide +kernel, by decide +kernel⟩, by decide⟩
theorem mwX11_480 : zMv RX11 480 mX11_worthNow 0 := ⟨tb8 103 rfl rfl, tb8 105 rfl rfl, tb_pv (q := (yX11_worthNow, 79)) (List.mem_of_getElem? (i := 101) (by decide +kernel)), tb1 16 rfl rfl, tb8 106 rfl rfl, ⟨by decide +kernel, by decide +kernel, by decide +kernel⟩, by decide⟩
theorem mwX11_484 : zMs RX11 484 mX11_lesser 2 := ⟨tb8 76 rfl rfl, tb8 77 rfl rfl, tb1 16 rfl rfl, tb8 78 rfl rfl, ⟨by decide +kernel, by decide +kernel, by decide +kernel⟩, by decide⟩
theorem mwX11_487 : zMv RX11 487 mX11_holdOf 3 := ⟨tb8 72 rfl rfl, tb8 74 rfl rfl, tb_pv (q := (yX11_holdOf, 79)) (List.mem_of_getElem? (i := 96) (by decide +kernel)), tb1 16 rfl rfl, tb8 75 rfl rfl, ⟨by decide +kernel, by decide +kernel, by decide +kernel⟩, by decide⟩
theorem mwX11_491 : zMv RX11 491 mX11_asksRow 3 := ⟨tb8 95 rfl rfl, tb8 97 rfl rfl, tb_pv (q := (yX11_asksRow, 79)) (List.mem_of_getElem? (i := 99) (by decide +kernel)), tb1 16 rfl rfl, tb8 98 rfl rfl, ⟨by decide +kernel, by decide +kernel, by decide +kernel⟩, by decide⟩
theorem mwX11_497 : zMv RX11 497 mX11_isTunnel 1 := ⟨tb8 27 rfl rfl, tb8 29 rfl rfl, tb_pv (q := (yX11_isTunnel, 79)) (List.mem_of_getElem? (i := 89) (by decide +kernel)), tb1 16 rfl rfl, tb8 30 rfl rfl, ⟨by decide +kernel, by decide +kernel, by decide +kernel⟩, by decide⟩
theorem mwX11_500 : zMv RX11 500 mX11_weights 1 := ⟨tb8 35 rfl rfl, tb8 37 rfl rfl, tb_pv (q := (yX11_weights, 79)) (List.mem_of_getElem? (i := 91) (by decide +kernel)), tb1 16 rfl rfl, tb8 38 rfl rfl, ⟨by decide +kernel, by decide +kernel, by decide +kernel⟩, by decide⟩
theorem mwX11_503 : zMv RX11 503 mX11_lengthAt 2 := ⟨tb8 43 rfl rfl, tb8 45 rfl rfl, tb_pv (q := (yX11_lengthAt, 79)) (List.mem_of_getElem? (i := 93) (by decide +kernel)), tb1 16 rfl rfl, tb8 46 rfl rfl, ⟨by decide +kernel, by decide +kernel, by decide +kernel⟩, by decide⟩
theorem mwX11_506 : zMv RX11 506 mX11_isHolder 1 := ⟨tb8 51 rfl rfl, tb8 53 rfl rfl, tb_pv (q := (yX11_isHolder, 79)) (List.mem_of_getElem? (i := 94) (by decide +kernel)), tb1 16 rfl rfl, tb8 54 rfl rfl, ⟨by decide +kernel, by decide +kernel, by decide +kernel⟩, by decide⟩
theorem mwX11_510 : zMv RX11 510 mX11_canBe 3 := ⟨tb8 68 rfl rfl, tb8 70 rfl rfl, tb_pv (q := (yX11_canBe, 79)) (List.mem_of_getElem? (i := 95) (by decide +kernel)), tb1 16 rfl rfl, tb8 71 rfl rfl, ⟨by decide +kernel, by decide +kernel, by decide +kernel⟩, by decide⟩
theorem mwX11_513 : zMv RX11 513 mX11_allHold 2 := ⟨tb8 87 rfl rfl, tb8 89 rfl rfl, tb_pv (q := (yX11_allHold, 79)) (List.mem_of_getElem? (i := 97) (by decide +kernel)), tb1 16 rfl rfl, tb8 90 rfl rfl, ⟨by decide +kernel, by decide +kernel, by decide +kernel⟩, by decide⟩
theorem mwX11_516 : zMv RX11 516 mX11_worthRow 3 := ⟨tb8 91 rfl rfl, tb8 93 rfl rfl, tb_pv (q := (yX11_worthRow, 79)) (List.mem_of_getElem? (i := 98) (by decide +kernel)), tb1 16 rfl rfl, tb8 94 rfl rfl, ⟨by decide +kernel, by decide +kernel, by decide +kernel⟩, by decide⟩
theorem mwX11_519 : zMv RX11 519 mX11_breathNow 0 := ⟨tb8 133 rfl rfl, tb8 135 rfl rfl, tb_pv (q := (yX11_breathNow, 79)) (List.mem_of_getElem? (i := 104) (by decide +kernel)), tb1 16 rfl rfl, tb8 136 rfl rfl, ⟨by decide +kernel, by decide +kernel, by decide +kernel⟩, by decide⟩
theorem mwX11_524 : zMv RX11 524 mX11_worthAlone 4 := ⟨tb8 145 rfl rfl, tb8 147 rfl rfl, tb_pv (q := (yX11_worthAlone, 79)) (List.mem_of_getElem? (i := 106) (by decide +kernel)), tb1 16 rfl rfl, tb8 148 rfl rfl, ⟨by decide +kernel, by decide +kernel, by decide +kernel⟩, by decide⟩
theorem mwX11_528 : zMv RX11 528 mX11_findsAlone 2 := ⟨tb8 141 rfl rfl, tb8 143 rfl rfl, tb_pv (q := (yX11_findsAlone, 79)) (List.mem_of_getElem? (i := 105) (by decide +kernel)), tb1 16 rfl rfl, tb8 144 rfl rfl, ⟨by decide +kernel, by decide +kernel, by decide +kernel⟩, by decide⟩
theorem mwX11_531 : zMv RX11 531 mX11_thousandths 2 := ⟨tb8 149 rfl rfl, tb8 151 rfl rfl, tb_pv (q := (yX11_thousandths, 79)) (List.mem_of_getElem? (i := 107) (by decide +kernel)), tb1 16 rfl rfl, tb8 152 rfl rfl, ⟨by decide +kernel, by decide +kernel, by decide +kernel⟩, by decide⟩
theorem mwX11_535 : zMv RX11 535 mX11_findsOn 4 := ⟨tb8 158 rfl rfl, tb8 160 rfl rfl, tb_pv (q := (yX11_findsOn, 79)) (List.mem_of_getElem? (i := 108) (by decide +kernel)), tb1 16 rfl rfl, tb8 161 rfl rfl, ⟨by decide +kernel, by decide +kernel, by decide +kernel⟩, by decide⟩
theorem mwX11_539 : zMv RX11 539 mX11_worthBy 3 := ⟨tb8 170 rfl rfl, tb8 172 rfl rfl, tb_pv (q := (yX11_worthBy, 79)) (List.mem_of_getElem? (i := 110) (by decide +kernel)), tb1 16 rfl rfl, tb8 173 rfl rfl, ⟨by decide +kernel, by decide +kernel, by decide +kernel⟩, by decide⟩
theorem mwX11_542 : zMv RX11 542 mX11_takes 2 := ⟨tb8 166 rfl rfl, tb8 168 rfl rfl, tb_pv (q := (yX11_takes, 79)) (List.mem_of_getElem? (i := 109) (by decide +kernel)), tb1 16 rfl rfl, tb8 169 rfl rfl, ⟨by decide +kernel, by decide +kernel, by decide +kernel⟩, by decide⟩
theorem mwX11_548 : zMv RX11 548 mX11_madeBy 2 := ⟨tb8 183 rfl rfl, tb8 185 rfl rfl, tb_pv (q := (yX11_madeBy, 79)) (List.mem_of_getElem? (i := 111) (by decide +kernel)), tb1 16 rfl rfl, tb8 186 rfl rfl, ⟨by decide +kernel, by decide +kernel, by decide +kernel⟩, by decide⟩
theorem mwX11_551 : zMv RX11 551 mX11_isByFaces 1 := ⟨tb8 199 rfl rfl, tb8 201 rfl rfl, tb_pv (q := (yX11_isByFaces, 79)) (List.mem_of_getElem? (i := 112) (by decide +kernel)), tb1 16 rfl rfl, tb8 202 rfl rfl, ⟨by decide +kernel, by decide +kernel, by decide +kernel⟩, by decide⟩
theorem mwX11_562 : zMv RX11 562 mX11_draw 1 := ⟨tb8 215 rfl rfl, tb8 217 rfl rfl, tb_pv (q := (yX11_draw, 79)) (List.mem_of_getElem? (i := 115) (by decide +kernel)), tb1 16 rfl rfl, tb8 218 rfl rfl, ⟨by decide +kernel, by decide +kernel, by decide +kernel⟩, by decide⟩
theorem mwX11_565 : zMv RX11 565 mX11_laughing 2 := ⟨tb8 223 rfl rfl, tb8 225 rfl rfl, tb_pv (q := (yX11_laughing, 79)) (List.mem_of_getElem? (i := 116) (by decide +kernel)), tb1 16 rfl rfl, tb8 226 rfl rfl, ⟨by decide +kernel, by decide +kernel, by decide +kernel⟩, by decide⟩
theorem mwX11_570 : zMv RX11 570 mX11_writesDown 3 := ⟨tb8 229 rfl rfl, tb8 231 rfl rfl, tb_pv (q := (yX11_writesDown, 79)) (List.mem_of_getElem? (i := 117) (by decide +kernel)), tb1 16 rfl rfl, tb8 232 rfl rfl, ⟨by decide +kernel, by decide +kernel, by decide +kernel⟩, by decide⟩
theorem mwX11_573 : zMv RX11 573 mX11_keeps 0 := ⟨tb8 207 rfl rfl, tb8 209 rfl rfl, tb_pv (q := (yX11_keeps, 79)) (List.mem_of_getElem? (i := 113) (by decide +kernel)), tb1 16 rfl rfl, tb8 210 rfl rfl, ⟨by decide +kernel, by decide +kernel, by decide +kernel⟩, by decide⟩
theorem mwX11_576 : zMv RX11 576 mX11_driven 0 := ⟨tb8 211 rfl rfl, tb8 213 rfl rfl, tb_pv (q := (yX11_driven, 79)) (List.mem_of_getElem? (i := 114) (by decide +kernel)), tb1 16 rfl rfl, tb8 214 rfl rfl, ⟨by decide +kernel, by decide +kernel, by decide +kernel⟩, by decide⟩
theorem mwX11_579 : zMv RX11 579 mX11_writes 1 := ⟨tb9 17 rfl rfl, tb9 19 rfl rfl, tb_pv (q := (yX11_writes, 79)) (List.mem_of_getElem? (i := 118) (by decide +kernel)), tb1 16 rfl rfl, tb9 20 rfl rfl, ⟨by decide +kernel, by decide +kernel, by decide +kernel⟩, by decide⟩
theorem mwX11_583 : zMv RX11 583 mX11_holderOn 2 := ⟨tb9 34 rfl rfl, tb9 36 rfl rfl, tb_pv (q := (yX11_holderOn, 79)) (List.mem_of_getElem? (i := 120) (by decide +kernel)), tb1 16 rfl rfl, tb9 37 rfl rfl, ⟨by decide +kernel, by decide +kernel, by decide +kernel⟩, by decide⟩
theorem mwX11_586 : zMv RX11 586 mX11_comesOn 1 := ⟨tb9 30 rfl rfl, tb9 32 rfl rfl, tb_pv (q := (yX11_comesOn, 79)) (List.mem_of_getElem? (i := 119) (by decide +kernel)), tb1 16 rfl rfl, tb9 33 rfl rfl, ⟨by decide +kernel, by decide +kernel, by decide +kernel⟩, by decide⟩
theorem mwJ0_335 : zMv RJ0 335 mJ0_coder_7d493 0 := ⟨tb2 81 rfl rfl, tb2 82 rfl rfl, tb2 83 rfl rfl, tb1 12 rfl rfl, tb2 84 rfl rfl, ⟨by decide +kernel, by decide +kernel, by decide +kernel⟩, by decide⟩
theorem mwJ0_492 : zMv RJ0 492 mJ0_isLatin1_aae02 0 := ⟨tb2 91 rfl rfl, tb2 92 rfl rfl, tb2 93 rfl rfl, tb1 12 rfl rfl, tb2 94 rfl rfl, ⟨by decide +kernel, by decide +kernel, by decide +kernel⟩, by decide⟩
theorem mwJ0_495 : zMs RJ0 495 mJ1_charAt_3b067 2 := ⟨tb2 95 rfl rfl, tb2 96 rfl rfl, tb1 13 rfl rfl, tb2 97 rfl rfl, ⟨by decide +kernel, by decide +kernel, by decide +kernel⟩, by decide⟩
theorem mwJ0_498 : zMs RJ0 498 mJ2_charAt_3b067 2 := ⟨tb2 106 rfl rfl, tb2 107 rfl rfl, tb1 15 rfl rfl, tb2 108 rfl rfl, ⟨by decide +kernel, by decide +kernel, by decide +kernel⟩, by decide⟩
theorem mwJ0_505 : zMv RJ0 505 mJ0_length_8abf5 0 := ⟨tb3 52 rfl rfl, tb2 78 rfl rfl, tb2 79 rfl rfl, tb1 12 rfl rfl, tb2 80 rfl rfl, ⟨by decide +kernel, by decide +kernel, by decide +kernel⟩, by decide⟩
theorem mwJ0_633 : zMv RJ0 633 mJ0_indexOf_7cf53 2 := ⟨tb3 48 rfl rfl, tb3 49 rfl rfl, tb3 50 rfl rfl, tb1 12 rfl rfl, tb3 51 rfl rfl, ⟨by decide +kernel, by decide +kernel, by decide +kernel⟩, by decide⟩
theorem mwJ0_637 : zMs RJ0 637 mJ1_indexOf_4cfef 4 := ⟨tb3 53 rfl rfl, tb3 54 rfl rfl, tb1 13 rfl rfl, tb3 55 rfl rfl, ⟨by decide +kernel, by decide +kernel, by decide +kernel⟩, by decide⟩
theorem mwJ0_640 : zMs RJ0 640 mJ2_indexOf_4cfef 4 := ⟨tb3 68 rfl rfl, tb3 69 rfl rfl, tb1 15 rfl rfl, tb3 70 rfl rfl, ⟨by decide +kernel, by decide +kernel, by decide +kernel⟩, by decide⟩
theorem mwJ0_1059 : zMs RJ0 1059 mJ3_checkIndex_8e157 3 := ⟨tb2 103 rfl rfl, tb2 104 rfl rfl, tb1 14 rfl rfl, tb2 105 rfl rfl, ⟨by decide +kernel, by decide +kernel, by decide +kernel⟩, by decide⟩
theorem mwJ0_1062 : zMs RJ0 1062 mJ3_checkFromToIndex_8c36e 4 := ⟨tb3 83 rfl rfl, tb3 84 rfl rfl, tb1 14 rfl rfl, tb3 85 rfl rfl, ⟨by decide +kernel, by decide +kernel, by decide +kernel⟩, by decide⟩
theorem mwJ1_9 : zMs RJ1 9 mJ0_checkIndex_df160 2 := ⟨tb2 98 rfl rfl, tb2 99 rfl rfl, tb1 12 rfl rfl, tb2 100 rfl rfl, ⟨by decide +kernel, by decide +kernel, by decide +kernel⟩, by decide⟩
theorem mwJ1_38 : zMs RJ1 38 mJ9_min_7cf53 2 := ⟨tb3 62 rfl rfl, tb3 63 rfl rfl, tb1 18 rfl rfl, tb3 64 rfl rfl, ⟨by decide +kernel, by decide +kernel, by decide +kernel⟩, by decide⟩
theorem mwJ1_88 : zMs RJ1 88 mJ1_canEncode_9a6ad 1 := ⟨tb3 56 rfl rfl, tb3 57 rfl rfl, tb1 13 rfl rfl, tb3 58 rfl rfl, ⟨by decide +kernel, by decide +kernel, by decide +kernel⟩, by decide⟩
theorem mwJ1_92 : zMs RJ1 92 mJ9_max_7cf53 2 := ⟨tb3 59 rfl rfl, tb3 60 rfl rfl, tb1 18 rfl rfl, tb3 61 rfl rfl, ⟨by decide +kernel, by decide +kernel, by decide +kernel⟩, by decide⟩
theorem mwJ1_95 : zMs RJ1 95 mJ1_indexOfChar_4cfef 4 := ⟨tb3 65 rfl rfl, tb3 66 rfl rfl, tb1 13 rfl rfl, tb3 67 rfl rfl, ⟨by decide +kernel, by decide +kernel, by decide +kernel⟩, by decide⟩
theorem mwJ2_48 : zMs RJ2 48 mJ2_length_9d52b 1 := ⟨tb2 112 rfl rfl, tb2 113 rfl rfl, tb1 15 rfl rfl, tb2 114 rfl rfl, ⟨by decide +kernel, by decide +kernel, by decide +kernel⟩, by decide⟩
theorem mwJ2_67 : zMs RJ2 67 mJ2_checkIndex_2214a 2 := ⟨tb2 109 rfl rfl, tb2 110 rfl rfl, tb1 15 rfl rfl, tb2 111 rfl rfl, ⟨by decide +kernel, by decide +kernel, by decide +kernel⟩, by decide⟩
theorem mwJ2_71 : zMs RJ2 71 mJ2_getChar_3b067 2 := ⟨tb2 116 rfl rfl, tb2 117 rfl rfl, tb1 15 rfl rfl, tb2 118 rfl rfl, ⟨by decide +kernel, by decide +kernel, by decide +kernel⟩, by decide⟩
theorem mwJ2_96 : zMs RJ2 96 mJ2_checkBoundsBeginEnd_d044e 3 := ⟨tb3 77 rfl rfl, tb3 78 rfl rfl, tb1 15 rfl rfl, tb3 79 rfl rfl, ⟨by decide +kernel, by decide +kernel, by decide +kernel⟩, by decide⟩
theorem mwJ2_157 : zMs RJ2 157 mJ11_highSurrogate_5068e 1 := ⟨tb3 95 rfl rfl, tb3 96 rfl rfl, tb1 19 rfl rfl, tb3 97 rfl rfl, ⟨by decide +kernel, by decide +kernel, by decide +kernel⟩, by decide⟩
theorem mwJ2_161 : zMs RJ2 161 mJ11_lowSurrogate_5068e 1 := ⟨tb3 99 rfl rfl, tb3 100 rfl rfl, tb1 19 rfl rfl, tb3 101 rfl rfl, ⟨by decide +kernel, by decide +kernel, by decide +kernel⟩, by decide⟩
theorem mwJ2_164 : zMs RJ2 164 mJ11_isValidCodePoint_9a6ad 1 := ⟨tb3 92 rfl rfl, tb3 93 rfl rfl, tb1 19 rfl rfl, tb3 94 rfl rfl, ⟨by decide +kernel, by decide +kernel, by decide +kernel⟩, by decide⟩
theorem mwJ2_183 : zMs RJ2 183 mJ9_min_7cf53 2 := ⟨tb3 72 rfl rfl, tb3 63 rfl rfl, tb1 18 rfl rfl, tb3 64 rfl rfl, ⟨by decide +kernel, by decide +kernel, by decide +kernel⟩, by decide⟩
theorem mwJ2_224 : zMs RJ2 224 mJ9_max_7cf53 2 := ⟨tb3 71 rfl rfl, tb3 60 rfl rfl, tb1 18 rfl rfl, tb3 61 rfl rfl, ⟨by decide +kernel, by decide +kernel, by decide +kernel⟩, by decide⟩
theorem mwJ2_228 : zMs RJ2 228 mJ2_indexOfChar_4cfef 4 := ⟨tb3 74 rfl rfl, tb3 75 rfl rfl, tb1 15 rfl rfl, tb3 76 rfl rfl, ⟨by decide +kernel, by decide +kernel, by decide +kernel⟩, by decide⟩
theorem mwJ2_232 : zMs RJ2 232 mJ2_indexOfSupplementary_4cfef 4 := ⟨tb3 89 rfl rfl, tb3 90 rfl rfl, tb1 15 rfl rfl, tb3 91 rfl rfl, ⟨by decide +kernel, by decide +kernel, by decide +kernel⟩, by decide⟩
theorem mwJ2_241 : zMs RJ2 241 mJ0_checkBoundsBeginEnd_23922 3 := ⟨tb3 80 rfl rfl, tb3 81 rfl rfl, tb1 12 rfl rfl, tb3 82 rfl rfl, ⟨by decide +kernel, by decide +kernel, by decide +kernel⟩, by decide⟩
theorem mwJ2_244 : zMs RJ2 244 mJ2_indexOfCharUnsafe_4cfef 4 := ⟨tb3 86 rfl rfl, tb3 87 rfl rfl, tb1 15 rfl rfl, tb3 88 rfl rfl, ⟨by decide +kernel, by decide +kernel, by decide +kernel⟩, by decide⟩
theorem mwJ2_414 : zMs RJ2 414 mJ0_checkIndex_df160 2 := ⟨tb2 115 rfl rfl, tb2 99 rfl rfl, tb1 12 rfl rfl, tb2 100 rfl rfl, ⟨by decide +kernel, by decide +kernel, by decide +kernel⟩, by decide⟩
theorem ciX10_201 : Cond.constant RX10 201 (-1000000000) ∈ TB := tb4 98 rfl rfl
theorem ciX3_44 : Cond.constant RX3 44 (100000) ∈ TB := tb5 227 rfl rfl
theorem ciX3_80 : Cond.constant RX3 80 (-99999) ∈ TB := tb6 15 rfl rfl
theorem ciX3_81 : Cond.constant RX3 81 (99999) ∈ TB := tb6 16 rfl rfl
theorem ciX7_44 : Cond.constant RX7 44 (-99999) ∈ TB := tb5 145 rfl rfl
theorem ciX7_45 : Cond.constant RX7 45 (99999) ∈ TB := tb5 146 rfl rfl
theorem ciX8_74 : Cond.constant RX8 74 (1000000) ∈ TB := tb4 180 rfl rfl
theorem ciX8_77 : Cond.constant RX8 77 (-1000000) ∈ TB := tb4 182 rfl rfl
theorem ciX11_509 : Cond.constant RX11 509 (-1000000000) ∈ TB := tb8 59 rfl rfl
theorem ciX11_568 : Cond.constant RX11 568 (-99999) ∈ TB := tb8 227 rfl rfl
theorem ciX11_569 : Cond.constant RX11 569 (99999) ∈ TB := tb8 228 rfl rfl
theorem ciX11_582 : Cond.constant RX11 582 (100000) ∈ TB := tb9 21 rfl rfl
theorem ciJ11_76 : Cond.constant RJ11 76 (56320) ∈ TB := tb3 102 rfl rfl
theorem ciJ11_110 : Cond.constant RJ11 110 (55232) ∈ TB := tb3 98 rfl rfl
theorem ciJ6_265 : Cond.constant RJ6 265 (1431655765) ∈ TB := tb5 103 rfl rfl
theorem ciJ6_266 : Cond.constant RJ6 266 (858993459) ∈ TB := tb5 104 rfl rfl
theorem ciJ6_267 : Cond.constant RJ6 267 (252645135) ∈ TB := tb5 105 rfl rfl
theorem ciJ2_227 : Cond.constant RJ2 227 (65536) ∈ TB := tb3 73 rfl rfl
theorem clX10_255 : Cond.constantLong RX10 255 (100) ∈ TB := tb5 42 rfl rfl
theorem clX10_358 : Cond.constantLong RX10 358 (1103515245) ∈ TB := tb5 132 rfl rfl
theorem clX10_360 : Cond.constantLong RX10 360 (12345) ∈ TB := tb5 133 rfl rfl
theorem clX10_362 : Cond.constantLong RX10 362 (2147483647) ∈ TB := tb5 134 rfl rfl
theorem clX10_364 : Cond.constantLong RX10 364 (1000) ∈ TB := tb4 106 rfl rfl
theorem clX0_78 : Cond.constantLong RX0 78 (-1000000000000000) ∈ TB := tb4 216 rfl rfl
theorem clX0_162 : Cond.constantLong RX0 162 (100) ∈ TB := tb5 41 rfl rfl
theorem clX8_72 : Cond.constantLong RX8 72 (1000000) ∈ TB := tb4 179 rfl rfl
theorem clX8_75 : Cond.constantLong RX8 75 (-1000000) ∈ TB := tb4 181 rfl rfl
theorem clX11_280 : Cond.constantLong RX11 280 (128047712724332) ∈ TB := tb7 80 rfl rfl
theorem clX11_282 : Cond.constantLong RX11 282 (6775152) ∈ TB := tb7 101 rfl rfl
theorem clX11_284 : Cond.constantLong RX11 284 (24948) ∈ TB := tb7 102 rfl rfl
theorem clX11_286 : Cond.constantLong RX11 286 (131277443786867) ∈ TB := tb7 103 rfl rfl
theorem clX11_288 : Cond.constantLong RX11 288 (114827769177458) ∈ TB := tb7 104 rfl rfl
theorem clX11_290 : Cond.constantLong RX11 290 (108243466679400) ∈ TB := tb7 105 rfl rfl
theorem clX11_292 : Cond.constantLong RX11 292 (119165837338739) ∈ TB := tb7 106 rfl rfl
theorem clX11_294 : Cond.constantLong RX11 294 (127991794264947) ∈ TB := tb7 107 rfl rfl
theorem clX11_296 : Cond.constantLong RX11 296 (444150998387) ∈ TB := tb7 108 rfl rfl
theorem clX11_298 : Cond.constantLong RX11 298 (512970880104) ∈ TB := tb7 109 rfl rfl
theorem clX11_300 : Cond.constantLong RX11 300 (499985311091) ∈ TB := tb7 110 rfl rfl
theorem clX11_302 : Cond.constantLong RX11 302 (1936024942) ∈ TB := tb7 111 rfl rfl
theorem clX11_304 : Cond.constantLong RX11 304 (1718185573) ∈ TB := tb7 112 rfl rfl
theorem clX11_306 : Cond.constantLong RX11 306 (1751477348) ∈ TB := tb7 113 rfl rfl
theorem clX11_308 : Cond.constantLong RX11 308 (1819242087) ∈ TB := tb7 114 rfl rfl
theorem clX11_310 : Cond.constantLong RX11 310 (1835099237) ∈ TB := tb7 115 rfl rfl
theorem clX11_312 : Cond.constantLong RX11 312 (1818325876) ∈ TB := tb7 116 rfl rfl
theorem clX11_314 : Cond.constantLong RX11 314 (108187566237038) ∈ TB := tb7 117 rfl rfl
theorem clX11_316 : Cond.constantLong RX11 316 (26982) ∈ TB := tb7 118 rfl rfl
theorem clX11_318 : Cond.constantLong RX11 318 (28530) ∈ TB := tb7 119 rfl rfl
theorem clX11_320 : Cond.constantLong RX11 320 (6385252) ∈ TB := tb7 120 rfl rfl
theorem clX11_322 : Cond.constantLong RX11 322 (7237492) ∈ TB := tb7 121 rfl rfl
theorem clX11_324 : Cond.constantLong RX11 324 (6384748) ∈ TB := tb7 122 rfl rfl
theorem clX11_326 : Cond.constantLong RX11 326 (7170414) ∈ TB := tb7 123 rfl rfl
theorem clX11_328 : Cond.constantLong RX11 328 (7168376) ∈ TB := tb7 124 rfl rfl
theorem clX11_449 : Cond.constantLong RX11 449 (1000000) ∈ TB := tb8 121 rfl rfl
theorem clX11_451 : Cond.constantLong RX11 451 (-1000000) ∈ TB := tb8 122 rfl rfl
theorem clX11_495 : Cond.constantLong RX11 495 (255) ∈ TB := tb8 22 rfl rfl
theorem clX11_522 : Cond.constantLong RX11 522 (1000) ∈ TB := tb8 153 rfl rfl
theorem clX11_546 : Cond.constantLong RX11 546 (100) ∈ TB := tb8 178 rfl rfl
theorem clX11_554 : Cond.constantLong RX11 554 (1103515245) ∈ TB := tb8 219 rfl rfl
theorem clX11_556 : Cond.constantLong RX11 556 (12345) ∈ TB := tb8 220 rfl rfl
theorem clX11_558 : Cond.constantLong RX11 558 (2147483648) ∈ TB := tb8 221 rfl rfl
theorem clX11_560 : Cond.constantLong RX11 560 (64) ∈ TB := tb8 222 rfl rfl
theorem nwX10_9 : zNo RX10 9 9 := ⟨RX9, TX9, rfl, tb1 30 rfl rfl, tb1 31 rfl rfl, tb1 2 rfl rfl, by decide +kernel⟩
theorem nwX10_16 : zNo RX10 16 7 := ⟨RX7, TX7, rfl, tb1 48 rfl rfl, tb1 49 rfl rfl, tb1 3 rfl rfl, by decide +kernel⟩
theorem nwX10_23 : zNo RX10 23 2 := ⟨RX2, TX2, rfl, tb1 60 rfl rfl, tb1 61 rfl rfl, tb1 4 rfl rfl, by decide +kernel⟩
theorem nwX10_30 : zNo RX10 30 4 := ⟨RX4, TX4, rfl, tb1 77 rfl rfl, tb1 78 rfl rfl, tb1 5 rfl rfl, by decide +kernel⟩
theorem nwX10_32 : zNo RX10 32 6 := ⟨RX6, TX6, rfl, tb1 79 rfl rfl, tb1 80 rfl rfl, tb1 6 rfl rfl, by decide +kernel⟩
theorem nwX10_42 : zNo RX10 42 0 := ⟨RX0, TX0, rfl, tb1 222 rfl rfl, tb1 223 rfl rfl, tb1 8 rfl rfl, by decide +kernel⟩
theorem nwX10_51 : zNo RX10 51 1 := ⟨RX1, TX1, rfl, tb2 34 rfl rfl, tb2 35 rfl rfl, tb1 9 rfl rfl, by decide +kernel⟩
theorem nwX10_58 : zNo RX10 58 3 := ⟨RX3, TX3, rfl, tb2 55 rfl rfl, tb2 56 rfl rfl, tb1 10 rfl rfl, by decide +kernel⟩
theorem nwX10_73 : zNo RX10 73 5 := ⟨RX5, TX5, rfl, tb2 70 rfl rfl, tb2 71 rfl rfl, tb1 11 rfl rfl, by decide +kernel⟩
theorem nwX6_58 : zNo RX6 58 8 := ⟨RX8, TX8, rfl, tb1 85 rfl rfl, tb1 86 rfl rfl, tb1 7 rfl rfl, by decide +kernel⟩
theorem nwL_7 : zNo RL 7 10 := ⟨RX10, TX10, rfl, tb1 22 rfl rfl, tb1 23 rfl rfl, tb1 1 rfl rfl, by decide +kernel⟩
theorem nwL_10 : zNo RL 10 11 := ⟨RX11, TX11, rfl, tb6 33 rfl rfl, tb6 34 rfl rfl, tb1 16 rfl rfl, by decide +kernel⟩
theorem ar_byte : Cond.arrayClass .byte ∈ TB := tb1 47 rfl rfl
theorem ar_int : Cond.arrayClass .int ∈ TB := tb1 59 rfl rfl
theorem ar_long : Cond.arrayClass .long ∈ TB := tb2 33 rfl rfl
theorem ar_boolean : Cond.arrayClass .boolean ∈ TB := tb7 37 rfl rfl
