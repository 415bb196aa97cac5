abbrev mJ6_bitCount_0f7a4 : o_M := (yJ6_bitCount_0f7a4, cJ6_bitCount_0f7a4, 1, (some .int))
abbrev mX0_best : o_M := (yX0_best, cX0_best, 9, (some .int))
abbrev mX0_firstTaken : o_M := (yX0_firstTaken, cX0_firstTaken, 4, (some .int))
abbrev mX0_outcome : o_M := (yX0_outcome, cX0_outcome, 2, (some .int))
abbrev mX0_sit : o_M := (yX0_sit, cX0_sit, 4, none)
abbrev mX0_takenThen : o_M := (yX0_takenThen, cX0_takenThen, 6, (some .int))
abbrev mX10_accept : o_M := (yX10_accept, cX10_accept, 5, (some .boolean))
abbrev mX10_beginStep : o_M := (yX10_beginStep, cX10_beginStep, 3, (some .boolean))
abbrev mX10_begins : o_M := (yX10_begins, cX10_begins, 1, (some .boolean))
abbrev mX10_takeEnd : o_M := (yX10_takeEnd, cX10_takeEnd, 1, (some .boolean))
abbrev mX10_takeNumber : o_M := (yX10_takeNumber, cX10_takeNumber, 4, (some .boolean))
abbrev mX10_takePost : o_M := (yX10_takePost, cX10_takePost, 4, (some .boolean))
abbrev mX10_takeRest : o_M := (yX10_takeRest, cX10_takeRest, 2, (some .boolean))
abbrev mX10_takeTest : o_M := (yX10_takeTest, cX10_takeTest, 3, (some .boolean))
abbrev mX11_acts : o_M := (yX11_acts, cX11_acts, 5, (some .int))
abbrev mX11_bottom : o_M := (yX11_bottom, cX11_bottom, 1, (some .long))
abbrev mX11_brother : o_M := (yX11_brother, cX11_brother, 2, (some .int))
abbrev mX11_commonDivisor : o_M := (yX11_commonDivisor, cX11_commonDivisor, 11, (some .long))
abbrev mX11_copyDay : o_M := (yX11_copyDay, cX11_copyDay, 4, (some .int))
abbrev mX11_could : o_M := (yX11_could, cX11_could, 7, (some .int))
abbrev mX11_cover : o_M := (yX11_cover, cX11_cover, 3, (some .int))
abbrev mX11_day : o_M := (yX11_day, cX11_day, 2, (some .int))
abbrev mX11_drink : o_M := (yX11_drink, cX11_drink, 2, (some .boolean))
abbrev mX11_echo : o_M := (yX11_echo, cX11_echo, 3, (some .int))
abbrev mX11_ends : o_M := (yX11_ends, cX11_ends, 2, (some .boolean))
abbrev mX11_fault : o_M := (yX11_fault, cX11_fault, 2, (some .int))
abbrev mX11_feed : o_M := (yX11_feed, cX11_feed, 6, (some .int))
abbrev mX11_forget : o_M := (yX11_forget, cX11_forget, 3, (some .boolean))
abbrev mX11_game : o_M := (yX11_game, cX11_game, 2, (some .int))
abbrev mX11_gameFirst : o_M := (yX11_gameFirst, cX11_gameFirst, 2, (some .int))
abbrev mX11_gives : o_M := (yX11_gives, cX11_gives, 2, (some .int))
abbrev mX11_givesIfAny : o_M := (yX11_givesIfAny, cX11_givesIfAny, 2, (some .int))
abbrev mX11_hand : o_M := (yX11_hand, cX11_hand, 2, (some .int))
abbrev mX11_idle : o_M := (yX11_idle, cX11_idle, 5, (some .int))
abbrev mX11_isJust : o_M := (yX11_isJust, cX11_isJust, 4, (some .int))
abbrev mX11_isTray : o_M := (yX11_isTray, cX11_isTray, 1, (some .boolean))
abbrev mX11_isWay : o_M := (yX11_isWay, cX11_isWay, 5, (some .boolean))
abbrev mX11_law : o_M := (yX11_law, cX11_law, 3, (some .int))
abbrev mX11_lawOf : o_M := (yX11_lawOf, cX11_lawOf, 5, (some .int))
abbrev mX11_lawsOf : o_M := (yX11_lawsOf, cX11_lawsOf, 7, (some .int))
abbrev mX11_lawsUsed : o_M := (yX11_lawsUsed, cX11_lawsUsed, 4, (some .int))
abbrev mX11_learn : o_M := (yX11_learn, cX11_learn, 3, (some .boolean))
abbrev mX11_letter : o_M := (yX11_letter, cX11_letter, 3, (some .int))
abbrev mX11_live : o_M := (yX11_live, cX11_live, 2, (some .int))
abbrev mX11_lived : o_M := (yX11_lived, cX11_lived, 2, (some .int))
abbrev mX11_longest : o_M := (yX11_longest, cX11_longest, 5, (some .int))
abbrev mX11_mark : o_M := (yX11_mark, cX11_mark, 1, (some .int))
abbrev mX11_mean : o_M := (yX11_mean, cX11_mean, 6, (some .boolean))
abbrev mX11_placeStatus : o_M := (yX11_placeStatus, cX11_placeStatus, 3, (some .int))
abbrev mX11_post : o_M := (yX11_post, cX11_post, 5, (some .int))
abbrev mX11_pour : o_M := (yX11_pour, cX11_pour, 8, (some .boolean))
abbrev mX11_pub : o_M := (yX11_pub, cX11_pub, 2, (some .boolean))
abbrev mX11_read : o_M := (yX11_read, cX11_read, 4, (some .long))
abbrev mX11_reads : o_M := (yX11_reads, cX11_reads, 4, (some .long))
abbrev mX11_refuses : o_M := (yX11_refuses, cX11_refuses, 2, (some .int))
abbrev mX11_rings : o_M := (yX11_rings, cX11_rings, 4, (some .int))
abbrev mX11_round : o_M := (yX11_round, cX11_round, 3, (some .int))
abbrev mX11_rowStatus : o_M := (yX11_rowStatus, cX11_rowStatus, 3, (some .int))
abbrev mX11_setFraction : o_M := (yX11_setFraction, cX11_setFraction, 7, none)
abbrev mX11_spellAt : o_M := (yX11_spellAt, cX11_spellAt, 6, (some .int))
abbrev mX11_spells : o_M := (yX11_spells, cX11_spells, 4, (some .int))
abbrev mX11_split : o_M := (yX11_split, cX11_split, 6, (some .int))
abbrev mX11_splitNext : o_M := (yX11_splitNext, cX11_splitNext, 6, (some .int))
abbrev mX11_splitStatus : o_M := (yX11_splitStatus, cX11_splitStatus, 10, (some .int))
abbrev mX11_status : o_M := (yX11_status, cX11_status, 1, (some .int))
abbrev mX11_strikeOf : o_M := (yX11_strikeOf, cX11_strikeOf, 5, (some .int))
abbrev mX11_strikeRowStatus : o_M := (yX11_strikeRowStatus, cX11_strikeRowStatus, 5, (some .int))
abbrev mX11_strikes : o_M := (yX11_strikes, cX11_strikes, 2, (some .int))
abbrev mX11_struckNow : o_M := (yX11_struckNow, cX11_struckNow, 6, (some .int))
abbrev mX11_sure : o_M := (yX11_sure, cX11_sure, 8, (some .boolean))
abbrev mX11_sway : o_M := (yX11_sway, cX11_sway, 2, (some .boolean))
abbrev mX11_take : o_M := (yX11_take, cX11_take, 2, (some .int))
abbrev mX11_teach : o_M := (yX11_teach, cX11_teach, 5, (some .boolean))
abbrev mX11_told : o_M := (yX11_told, cX11_told, 2, (some .int))
abbrev mX11_top : o_M := (yX11_top, cX11_top, 1, (some .long))
abbrev mX11_tray : o_M := (yX11_tray, cX11_tray, 4, (some .boolean))
abbrev mX11_undo : o_M := (yX11_undo, cX11_undo, 1, (some .int))
abbrev mX11_valley : o_M := (yX11_valley, cX11_valley, 2, (some .int))
abbrev mX11_via : o_M := (yX11_via, cX11_via, 5, (some .int))
abbrev mX11_viaFirst : o_M := (yX11_viaFirst, cX11_viaFirst, 5, (some .int))
abbrev mX11_weeks : o_M := (yX11_weeks, cX11_weeks, 2, (some .int))
abbrev mX11_weightAt : o_M := (yX11_weightAt, cX11_weightAt, 6, (some .int))
abbrev mX11_weights : o_M := (yX11_weights, cX11_weights, 7, (some .int))
abbrev mX11_within : o_M := (yX11_within, cX11_within, 6, (some .boolean))
abbrev mX11_worth : o_M := (yX11_worth, cX11_worth, 2, (some .int))
abbrev mX11_wrap : o_M := (yX11_wrap, cX11_wrap, 7, (some .int))
abbrev mX11_wrapped : o_M := (yX11_wrapped, cX11_wrapped, 4, (some .int))
abbrev mX11_write : o_M := (yX11_write, cX11_write, 6, (some .boolean))
abbrev mX12_aLaw : o_M := (yX12_aLaw, cX12_aLaw, 2, (some .boolean))
abbrev mX12_aLetter : o_M := (yX12_aLetter, cX12_aLetter, 2, (some .boolean))
abbrev mX12_aPerson : o_M := (yX12_aPerson, cX12_aPerson, 2, (some .boolean))
abbrev mX12_aStrike : o_M := (yX12_aStrike, cX12_aStrike, 2, (some .boolean))
abbrev mX12_actRow : o_M := (yX12_actRow, cX12_actRow, 2, (some .int))
abbrev mX12_acts : o_M := (yX12_acts, cX12_acts, 5, (some .int))
abbrev mX12_ahead : o_M := (yX12_ahead, cX12_ahead, 2, none)
abbrev mX12_anAct : o_M := (yX12_anAct, cX12_anAct, 3, (some .boolean))
abbrev mX12_areTurns : o_M := (yX12_areTurns, cX12_areTurns, 1, (some .boolean))
abbrev mX12_areTwo : o_M := (yX12_areTwo, cX12_areTwo, 3, (some .boolean))
abbrev mX12_begins : o_M := (yX12_begins, cX12_begins, 4, (some .boolean))
abbrev mX12_behindEnds : o_M := (yX12_behindEnds, cX12_behindEnds, 5, (some .int))
abbrev mX12_bits : o_M := (yX12_bits, cX12_bits, 3, (some .int))
abbrev mX12_bottom : o_M := (yX12_bottom, cX12_bottom, 1, (some .long))
abbrev mX12_brings : o_M := (yX12_brings, cX12_brings, 5, none)
abbrev mX12_brother : o_M := (yX12_brother, cX12_brother, 3, (some .int))
abbrev mX12_byteAt : o_M := (yX12_byteAt, cX12_byteAt, 2, (some .int))
abbrev mX12_comesBack : o_M := (yX12_comesBack, cX12_comesBack, 4, (some .boolean))
abbrev mX12_copies : o_M := (yX12_copies, cX12_copies, 4, none)
abbrev mX12_copyDay : o_M := (yX12_copyDay, cX12_copyDay, 3, (some .int))
abbrev mX12_could : o_M := (yX12_could, cX12_could, 7, (some .int))
abbrev mX12_cover : o_M := (yX12_cover, cX12_cover, 3, (some .int))
abbrev mX12_coverRow : o_M := (yX12_coverRow, cX12_coverRow, 1, (some .int))
abbrev mX12_cut : o_M := (yX12_cut, cX12_cut, 3, (some .long))
abbrev mX12_day : o_M := (yX12_day, cX12_day, 2, (some .int))
abbrev mX12_dayGoes : o_M := (yX12_dayGoes, cX12_dayGoes, 4, (some .int))
abbrev mX12_daysBy : o_M := (yX12_daysBy, cX12_daysBy, 2, (some .boolean))
abbrev mX12_daysGo : o_M := (yX12_daysGo, cX12_daysGo, 4, (some .int))
abbrev mX12_does : o_M := (yX12_does, cX12_does, 2, (some .boolean))
abbrev mX12_doesFit : o_M := (yX12_doesFit, cX12_doesFit, 7, (some .boolean))
abbrev mX12_draw : o_M := (yX12_draw, cX12_draw, 2, (some .int))
abbrev mX12_drink : o_M := (yX12_drink, cX12_drink, 2, (some .boolean))
abbrev mX12_drunkFor : o_M := (yX12_drunkFor, cX12_drunkFor, 2, (some .int))
abbrev mX12_echo : o_M := (yX12_echo, cX12_echo, 4, (some .int))
abbrev mX12_echoFrom : o_M := (yX12_echoFrom, cX12_echoFrom, 4, (some .int))
abbrev mX12_fails : o_M := (yX12_fails, cX12_fails, 2, (some .boolean))
abbrev mX12_fault : o_M := (yX12_fault, cX12_fault, 2, (some .int))
abbrev mX12_feed : o_M := (yX12_feed, cX12_feed, 6, (some .int))
abbrev mX12_findHere : o_M := (yX12_findHere, cX12_findHere, 4, (some .int))
abbrev mX12_findsLetter : o_M := (yX12_findsLetter, cX12_findsLetter, 6, (some .boolean))
abbrev mX12_firstLaw : o_M := (yX12_firstLaw, cX12_firstLaw, 6, (some .int))
abbrev mX12_forget : o_M := (yX12_forget, cX12_forget, 3, (some .boolean))
abbrev mX12_four : o_M := (yX12_four, cX12_four, 3, none)
abbrev mX12_game : o_M := (yX12_game, cX12_game, 2, (some .int))
abbrev mX12_gameFirst : o_M := (yX12_gameFirst, cX12_gameFirst, 2, (some .int))
abbrev mX12_gives : o_M := (yX12_gives, cX12_gives, 2, (some .int))
abbrev mX12_hand : o_M := (yX12_hand, cX12_hand, 2, (some .int))
abbrev mX12_handOf : o_M := (yX12_handOf, cX12_handOf, 2, (some .int))
abbrev mX12_handTo : o_M := (yX12_handTo, cX12_handTo, 2, (some .boolean))
abbrev mX12_hasCover : o_M := (yX12_hasCover, cX12_hasCover, 3, (some .boolean))
abbrev mX12_holds : o_M := (yX12_holds, cX12_holds, 4, (some .boolean))
abbrev mX12_idle : o_M := (yX12_idle, cX12_idle, 7, (some .int))
abbrev mX12_inWords : o_M := (yX12_inWords, cX12_inWords, 7, (some .int))
abbrev mX12_is : o_M := (yX12_is, cX12_is, 2, (some .boolean))
abbrev mX12_isAsked : o_M := (yX12_isAsked, cX12_isAsked, 5, (some .boolean))
abbrev mX12_isCouple : o_M := (yX12_isCouple, cX12_isCouple, 3, (some .boolean))
abbrev mX12_isDigit : o_M := (yX12_isDigit, cX12_isDigit, 1, (some .boolean))
abbrev mX12_isFrom : o_M := (yX12_isFrom, cX12_isFrom, 6, (some .boolean))
abbrev mX12_isHand : o_M := (yX12_isHand, cX12_isHand, 2, (some .boolean))
abbrev mX12_isJust : o_M := (yX12_isJust, cX12_isJust, 6, (some .int))
abbrev mX12_isLaw : o_M := (yX12_isLaw, cX12_isLaw, 2, (some .boolean))
abbrev mX12_isLetter : o_M := (yX12_isLetter, cX12_isLetter, 2, (some .boolean))
abbrev mX12_isLine : o_M := (yX12_isLine, cX12_isLine, 6, (some .boolean))
abbrev mX12_isMail : o_M := (yX12_isMail, cX12_isMail, 5, (some .boolean))
abbrev mX12_isName : o_M := (yX12_isName, cX12_isName, 2, (some .boolean))
abbrev mX12_isNowDrunk : o_M := (yX12_isNowDrunk, cX12_isNowDrunk, 3, (some .boolean))
abbrev mX12_isPerson : o_M := (yX12_isPerson, cX12_isPerson, 2, (some .boolean))
abbrev mX12_isSign : o_M := (yX12_isSign, cX12_isSign, 2, (some .boolean))
abbrev mX12_isSmall : o_M := (yX12_isSmall, cX12_isSmall, 1, (some .boolean))
abbrev mX12_isStrike : o_M := (yX12_isStrike, cX12_isStrike, 3, (some .boolean))
abbrev mX12_isStruck : o_M := (yX12_isStruck, cX12_isStruck, 4, (some .boolean))
abbrev mX12_isTaken : o_M := (yX12_isTaken, cX12_isTaken, 4, (some .boolean))
abbrev mX12_isThere : o_M := (yX12_isThere, cX12_isThere, 2, (some .boolean))
abbrev mX12_isTray : o_M := (yX12_isTray, cX12_isTray, 1, (some .boolean))
abbrev mX12_isWay : o_M := (yX12_isWay, cX12_isWay, 5, (some .boolean))
abbrev mX12_isWeight : o_M := (yX12_isWeight, cX12_isWeight, 2, (some .boolean))
abbrev mX12_lastLaw : o_M := (yX12_lastLaw, cX12_lastLaw, 6, (some .int))
abbrev mX12_law : o_M := (yX12_law, cX12_law, 3, (some .int))
abbrev mX12_lawOf : o_M := (yX12_lawOf, cX12_lawOf, 5, (some .int))
abbrev mX12_lawRow : o_M := (yX12_lawRow, cX12_lawRow, 1, (some .int))
abbrev mX12_lawsOf : o_M := (yX12_lawsOf, cX12_lawsOf, 7, (some .int))
abbrev mX12_lawsUsed : o_M := (yX12_lawsUsed, cX12_lawsUsed, 5, (some .int))
abbrev mX12_laysEchoes : o_M := (yX12_laysEchoes, cX12_laysEchoes, 5, none)
abbrev mX12_laysVia : o_M := (yX12_laysVia, cX12_laysVia, 7, none)
abbrev mX12_learn : o_M := (yX12_learn, cX12_learn, 3, (some .boolean))
abbrev mX12_letter : o_M := (yX12_letter, cX12_letter, 3, (some .int))
abbrev mX12_letterRow : o_M := (yX12_letterRow, cX12_letterRow, 1, (some .int))
abbrev mX12_linesFrom : o_M := (yX12_linesFrom, cX12_linesFrom, 8, (some .int))
abbrev mX12_live : o_M := (yX12_live, cX12_live, 3, (some .int))
abbrev mX12_lived : o_M := (yX12_lived, cX12_lived, 2, (some .int))
abbrev mX12_lives : o_M := (yX12_lives, cX12_lives, 4, none)
abbrev mX12_longest : o_M := (yX12_longest, cX12_longest, 4, (some .int))
abbrev mX12_mark : o_M := (yX12_mark, cX12_mark, 1, (some .int))
abbrev mX12_mean : o_M := (yX12_mean, cX12_mean, 7, (some .boolean))
abbrev mX12_nameHere : o_M := (yX12_nameHere, cX12_nameHere, 4, (some .long))
abbrev mX12_newOne : o_M := (yX12_newOne, cX12_newOne, 4, (some .boolean))
abbrev mX12_number : o_M := (yX12_number, cX12_number, 4, (some .boolean))
abbrev mX12_oldOne : o_M := (yX12_oldOne, cX12_oldOne, 4, (some .boolean))
abbrev mX12_oldPersonTo : o_M := (yX12_oldPersonTo, cX12_oldPersonTo, 2, (some .boolean))
abbrev mX12_orNone : o_M := (yX12_orNone, cX12_orNone, 2, (some .int))
abbrev mX12_otherTo : o_M := (yX12_otherTo, cX12_otherTo, 3, (some .boolean))
abbrev mX12_personTo : o_M := (yX12_personTo, cX12_personTo, 2, (some .boolean))
abbrev mX12_plain : o_M := (yX12_plain, cX12_plain, 3, none)
abbrev mX12_plays : o_M := (yX12_plays, cX12_plays, 5, (some .int))
abbrev mX12_post : o_M := (yX12_post, cX12_post, 5, (some .int))
abbrev mX12_posts : o_M := (yX12_posts, cX12_posts, 6, none)
abbrev mX12_postsBy : o_M := (yX12_postsBy, cX12_postsBy, 4, (some .boolean))
abbrev mX12_pour : o_M := (yX12_pour, cX12_pour, 8, (some .boolean))
abbrev mX12_pub : o_M := (yX12_pub, cX12_pub, 2, (some .boolean))
abbrev mX12_read : o_M := (yX12_read, cX12_read, 3, (some .long))
abbrev mX12_reads : o_M := (yX12_reads, cX12_reads, 6, (some .long))
abbrev mX12_refuse : o_M := (yX12_refuse, cX12_refuse, 2, (some .int))
abbrev mX12_ringFrom : o_M := (yX12_ringFrom, cX12_ringFrom, 5, (some .int))
abbrev mX12_rings : o_M := (yX12_rings, cX12_rings, 3, (some .int))
abbrev mX12_round : o_M := (yX12_round, cX12_round, 3, (some .int))
abbrev mX12_rowAt : o_M := (yX12_rowAt, cX12_rowAt, 3, (some .int))
abbrev mX12_sober : o_M := (yX12_sober, cX12_sober, 5, (some .int))
abbrev mX12_spellAt : o_M := (yX12_spellAt, cX12_spellAt, 6, (some .int))
abbrev mX12_spells : o_M := (yX12_spells, cX12_spells, 4, (some .int))
abbrev mX12_spellsTo : o_M := (yX12_spellsTo, cX12_spellsTo, 4, (some .boolean))
abbrev mX12_split : o_M := (yX12_split, cX12_split, 6, (some .int))
abbrev mX12_splitNext : o_M := (yX12_splitNext, cX12_splitNext, 10, (some .int))
abbrev mX12_status : o_M := (yX12_status, cX12_status, 1, (some .int))
abbrev mX12_strikeBy : o_M := (yX12_strikeBy, cX12_strikeBy, 2, (some .int))
abbrev mX12_strikeOf : o_M := (yX12_strikeOf, cX12_strikeOf, 5, (some .int))
abbrev mX12_strikeRow : o_M := (yX12_strikeRow, cX12_strikeRow, 1, (some .int))
abbrev mX12_strikeTo : o_M := (yX12_strikeTo, cX12_strikeTo, 2, (some .boolean))
abbrev mX12_strikes : o_M := (yX12_strikes, cX12_strikes, 2, (some .int))
abbrev mX12_struck : o_M := (yX12_struck, cX12_struck, 6, (some .int))
abbrev mX12_struckNow : o_M := (yX12_struckNow, cX12_struckNow, 5, (some .int))
abbrev mX12_sure : o_M := (yX12_sure, cX12_sure, 7, (some .boolean))
abbrev mX12_sway : o_M := (yX12_sway, cX12_sway, 4, (some .boolean))
abbrev mX12_take : o_M := (yX12_take, cX12_take, 3, (some .int))
abbrev mX12_taken : o_M := (yX12_taken, cX12_taken, 2, (some .int))
abbrev mX12_teach : o_M := (yX12_teach, cX12_teach, 5, (some .boolean))
abbrev mX12_tellsBy : o_M := (yX12_tellsBy, cX12_tellsBy, 11, (some .boolean))
abbrev mX12_test : o_M := (yX12_test, cX12_test, 3, (some .boolean))
abbrev mX12_told : o_M := (yX12_told, cX12_told, 2, (some .int))
abbrev mX12_top : o_M := (yX12_top, cX12_top, 1, (some .long))
abbrev mX12_tray : o_M := (yX12_tray, cX12_tray, 5, (some .boolean))
abbrev mX12_undo : o_M := (yX12_undo, cX12_undo, 1, (some .int))
abbrev mX12_valley : o_M := (yX12_valley, cX12_valley, 4, (some .int))
abbrev mX12_valleyPart : o_M := (yX12_valleyPart, cX12_valleyPart, 2, (some .boolean))
abbrev mX12_via : o_M := (yX12_via, cX12_via, 5, (some .int))
abbrev mX12_viaFirst : o_M := (yX12_viaFirst, cX12_viaFirst, 6, (some .int))
abbrev mX12_wantSign : o_M := (yX12_wantSign, cX12_wantSign, 2, (some .boolean))
abbrev mX12_wantWord : o_M := (yX12_wantWord, cX12_wantWord, 3, (some .boolean))
abbrev mX12_weekOrder : o_M := (yX12_weekOrder, cX12_weekOrder, 3, (some .boolean))
abbrev mX12_weekStep : o_M := (yX12_weekStep, cX12_weekStep, 6, (some .boolean))
abbrev mX12_weeks : o_M := (yX12_weeks, cX12_weeks, 4, (some .int))
abbrev mX12_weighs : o_M := (yX12_weighs, cX12_weighs, 3, none)
abbrev mX12_weightAt : o_M := (yX12_weightAt, cX12_weightAt, 8, (some .int))
abbrev mX12_weights : o_M := (yX12_weights, cX12_weights, 7, (some .int))
abbrev mX12_worth : o_M := (yX12_worth, cX12_worth, 2, (some .int))
abbrev mX12_worthBy : o_M := (yX12_worthBy, cX12_worthBy, 5, (some .int))
abbrev mX12_wrap : o_M := (yX12_wrap, cX12_wrap, 7, (some .int))
abbrev mX12_wrapped : o_M := (yX12_wrapped, cX12_wrapped, 4, (some .int))
abbrev mX12_write : o_M := (yX12_write, cX12_write, 6, (some .boolean))
abbrev mX12_wrongCovers : o_M := (yX12_wrongCovers, cX12_wrongCovers, 8, (some .int))
abbrev mX12_wrongPlace : o_M := (yX12_wrongPlace, cX12_wrongPlace, 3, (some .int))
abbrev mX12_wrongRow : o_M := (yX12_wrongRow, cX12_wrongRow, 4, (some .int))
abbrev mX1_add : o_M := (yX1_add, cX1_add, 6, none)
abbrev mX1_copyFrom : o_M := (yX1_copyFrom, cX1_copyFrom, 2, none)
abbrev mX1_dropAt : o_M := (yX1_dropAt, cX1_dropAt, 3, none)
abbrev mX1_isFull : o_M := (yX1_isFull, cX1_isFull, 1, (some .boolean))
abbrev mX1_tell : o_M := (yX1_tell, cX1_tell, 3, (some .int))
abbrev mX2_become : o_M := (yX2_become, cX2_become, 3, none)
abbrev mX2_behindEnd : o_M := (yX2_behindEnd, cX2_behindEnd, 4, (some .int))
abbrev mX2_behindStep : o_M := (yX2_behindStep, cX2_behindStep, 4, (some .int))
abbrev mX2_drawSixteenths : o_M := (yX2_drawSixteenths, cX2_drawSixteenths, 1, (some .int))
abbrev mX2_hasStruck : o_M := (yX2_hasStruck, cX2_hasStruck, 3, (some .boolean))
abbrev mX2_holds : o_M := (yX2_holds, cX2_holds, 3, (some .boolean))
abbrev mX2_postOne : o_M := (yX2_postOne, cX2_postOne, 5, none)
abbrev mX2_run : o_M := (yX2_run, cX2_run, 6, none)
abbrev mX3_add : o_M := (yX3_add, cX3_add, 5, none)
abbrev mX3_clear : o_M := (yX3_clear, cX3_clear, 1, none)
abbrev mX3_copyFrom : o_M := (yX3_copyFrom, cX3_copyFrom, 2, none)
abbrev mX4_append : o_M := (yX4_append, cX4_append, 3, none)
abbrev mX4_begin : o_M := (yX4_begin, cX4_begin, 2, none)
abbrev mX4_fail : o_M := (yX4_fail, cX4_fail, 2, (some .boolean))
abbrev mX4_hasSpace : o_M := (yX4_hasSpace, cX4_hasSpace, 1, (some .boolean))
abbrev mX4_isName : o_M := (yX4_isName, cX4_isName, 1, (some .boolean))
abbrev mX4_isSign : o_M := (yX4_isSign, cX4_isSign, 1, (some .boolean))
abbrev mX4_next : o_M := (yX4_next, cX4_next, 1, none)
abbrev mX4_readNumber : o_M := (yX4_readNumber, cX4_readNumber, 1, none)
abbrev mX4_readWord : o_M := (yX4_readWord, cX4_readWord, 6, none)
abbrev mX4_wantClose : o_M := (yX4_wantClose, cX4_wantClose, 1, (some .boolean))
abbrev mX4_wantKnown : o_M := (yX4_wantKnown, cX4_wantKnown, 5, (some .int))
abbrev mX4_wantNumber : o_M := (yX4_wantNumber, cX4_wantNumber, 4, (some .int))
abbrev mX4_wantWord : o_M := (yX4_wantWord, cX4_wantWord, 2, (some .boolean))
abbrev mX5_bestSplit : o_M := (yX5_bestSplit, cX5_bestSplit, 6, (some .int))
abbrev mX5_isWhole : o_M := (yX5_isWhole, cX5_isWhole, 5, (some .boolean))
abbrev mX5_spell : o_M := (yX5_spell, cX5_spell, 6, (some .boolean))
abbrev mX5_spellOne : o_M := (yX5_spellOne, cX5_spellOne, 8, (some .int))
abbrev mX5_splitBy : o_M := (yX5_splitBy, cX5_splitBy, 6, none)
abbrev mX5_splits : o_M := (yX5_splits, cX5_splits, 1, (some .int))
abbrev mX5_waysAlong : o_M := (yX5_waysAlong, cX5_waysAlong, 6, (some .long))
abbrev mX6_coupleBehind : o_M := (yX6_coupleBehind, cX6_coupleBehind, 5, (some .int))
abbrev mX6_findWays : o_M := (yX6_findWays, cX6_findWays, 7, none)
abbrev mX6_firstOnWay : o_M := (yX6_firstOnWay, cX6_firstOnWay, 5, (some .int))
abbrev mX6_follow : o_M := (yX6_follow, cX6_follow, 6, none)
abbrev mX6_nextOnWay : o_M := (yX6_nextOnWay, cX6_nextOnWay, 6, (some .int))
abbrev mX6_struckBetween : o_M := (yX6_struckBetween, cX6_struckBetween, 4, (some .int))
abbrev mX7_cut : o_M := (yX7_cut, cX7_cut, 3, (some .long))
abbrev mX7_make : o_M := (yX7_make, cX7_make, 3, none)
abbrev mX7_put : o_M := (yX7_put, cX7_put, 4, none)
abbrev mX8_answer : o_M := (yX8_answer, cX8_answer, 4, none)
abbrev mX8_answerAll : o_M := (yX8_answerAll, cX8_answerAll, 2, none)
abbrev mX8_bringTo : o_M := (yX8_bringTo, cX8_bringTo, 5, none)
abbrev mX8_clear : o_M := (yX8_clear, cX8_clear, 1, none)
abbrev mX8_copyFrom : o_M := (yX8_copyFrom, cX8_copyFrom, 2, none)
abbrev mX8_count : o_M := (yX8_count, cX8_count, 2, none)
abbrev mX8_firstFit : o_M := (yX8_firstFit, cX8_firstFit, 6, (some .int))
abbrev mX8_fits : o_M := (yX8_fits, cX8_fits, 12, (some .boolean))
abbrev mX8_goDays : o_M := (yX8_goDays, cX8_goDays, 5, (some .int))
abbrev mX8_hasDays : o_M := (yX8_hasDays, cX8_hasDays, 2, (some .boolean))
abbrev mX8_heaviest : o_M := (yX8_heaviest, cX8_heaviest, 6, (some .int))
abbrev mX8_isCouple : o_M := (yX8_isCouple, cX8_isCouple, 3, (some .boolean))
abbrev mX8_isHand : o_M := (yX8_isHand, cX8_isHand, 2, (some .boolean))
abbrev mX8_isLetter : o_M := (yX8_isLetter, cX8_isLetter, 5, (some .boolean))
abbrev mX8_isPerson : o_M := (yX8_isPerson, cX8_isPerson, 2, (some .boolean))
abbrev mX8_isStrike : o_M := (yX8_isStrike, cX8_isStrike, 3, (some .boolean))
abbrev mX8_isTaken : o_M := (yX8_isTaken, cX8_isTaken, 3, (some .boolean))
abbrev mX8_lastFit : o_M := (yX8_lastFit, cX8_lastFit, 6, (some .int))
abbrev mX8_lawsFirstBetween : o_M := (yX8_lawsFirstBetween, cX8_lawsFirstBetween, 7, (some .int))
abbrev mX8_lightest : o_M := (yX8_lightest, cX8_lightest, 7, (some .int))
abbrev mX8_manyOf : o_M := (yX8_manyOf, cX8_manyOf, 2, (some .int))
abbrev mX8_numberOf : o_M := (yX8_numberOf, cX8_numberOf, 5, (some .int))
abbrev mX8_setActs : o_M := (yX8_setActs, cX8_setActs, 5, none)
abbrev mX8_soberStrike : o_M := (yX8_soberStrike, cX8_soberStrike, 5, (some .int))
abbrev mX8_strikeBehind : o_M := (yX8_strikeBehind, cX8_strikeBehind, 2, (some .int))
abbrev mX8_strikeBy : o_M := (yX8_strikeBy, cX8_strikeBy, 2, (some .int))
abbrev mX8_swapLaws : o_M := (yX8_swapLaws, cX8_swapLaws, 5, none)
abbrev mX8_worthBy : o_M := (yX8_worthBy, cX8_worthBy, 3, (some .int))
abbrev mX8_worthOfAll : o_M := (yX8_worthOfAll, cX8_worthOfAll, 3, (some .int))
abbrev mX9_accept : o_M := (yX9_accept, cX9_accept, 4, (some .boolean))
abbrev mX9_lawName : o_M := (yX9_lawName, cX9_lawName, 4, (some .boolean))
abbrev mX9_lawNumber : o_M := (yX9_lawNumber, cX9_lawNumber, 4, (some .boolean))
abbrev mX9_takeActs : o_M := (yX9_takeActs, cX9_takeActs, 5, (some .boolean))
abbrev mX9_takeHand : o_M := (yX9_takeHand, cX9_takeHand, 1, (some .boolean))
abbrev mX9_takeLaw : o_M := (yX9_takeLaw, cX9_takeLaw, 3, (some .boolean))
abbrev mX9_takeLetter : o_M := (yX9_takeLetter, cX9_takeLetter, 5, (some .boolean))
abbrev mX9_takeOdds : o_M := (yX9_takeOdds, cX9_takeOdds, 2, (some .boolean))
abbrev mX9_takePerson : o_M := (yX9_takePerson, cX9_takePerson, 2, (some .boolean))
abbrev mX9_takeStrike : o_M := (yX9_takeStrike, cX9_takeStrike, 2, (some .boolean))
abbrev mX9_wantNew : o_M := (yX9_wantNew, cX9_wantNew, 2, (some .boolean))
theorem kI_m1 : Int32.ofInt (-1) = (-1) := by decide
theorem kI_0 : Int32.ofInt 0 = 0 := by decide
theorem kI_1 : Int32.ofInt 1 = 1 := by decide
theorem kI_2 : Int32.ofInt 2 = 2 := by decide
theorem kI_3 : Int32.ofInt 3 = 3 := by decide
theorem kI_4 : Int32.ofInt 4 = 4 := by decide
theorem kI_5 : Int32.ofInt 5 = 5 := by decide
theorem kB_m2 : (Int8.ofInt (-2)).toInt32 = (-2) := by decide
theorem kB_6 : (Int8.ofInt 6).toInt32 = 6 := by decide
theorem kB_7 : (Int8.ofInt 7).toInt32 = 7 := by decide
theorem kB_8 : (Int8.ofInt 8).toInt32 = 8 := by decide
theorem kB_9 : (Int8.ofInt 9).toInt32 = 9 := by decide
theorem kB_10 : (Int8.ofInt 10).toInt32 = 10 := by decide
theorem kB_11 : (Int8.ofInt 11).toInt32 = 11 := by decide
theorem kB_12 : (Int8.ofInt 12).toInt32 = 12 := by decide
theorem kB_13 : (Int8.ofInt 13).toInt32 = 13 := by decide
theorem kB_14 : (Int8.ofInt 14).toInt32 = 14 := by decide
theorem kB_15 : (Int8.ofInt 15).toInt32 = 15 := by decide
theorem kB_16 : (Int8.ofInt 16).toInt32 = 16 := by decide
theorem kB_17 : (Int8.ofInt 17).toInt32 = 17 := by decide
theorem kB_18 : (Int8.ofInt 18).toInt32 = 18 := by decide
theorem kB_19 : (Int8.ofInt 19).toInt32 = 19 := by decide
theorem kB_20 : (Int8.ofInt 20).toInt32 = 20 := by decide
theorem kB_21 : (Int8.ofInt 21).toInt32 = 21 := by decide
theorem kB_22 : (Int8.ofInt 22).toInt32 = 22 := by decide
theorem kB_23 : (Int8.ofInt 23).toInt32 = 23 := by decide
theorem kB_24 : (Int8.ofInt 24).toInt32 = 24 := by decide
theorem kB_25 : (Int8.ofInt 25).toInt32 = 25 := by decide
theorem kB_26 : (Int8.ofInt 26).toInt32 = 26 := by decide
theorem kB_30 : (Int8.ofInt 30).toInt32 = 30 := by decide
theorem kB_31 : (Int8.ofInt 31).toInt32 = 31 := by decide
theorem kB_32 : (Int8.ofInt 32).toInt32 = 32 := by decide
theorem kB_36 : (Int8.ofInt 36).toInt32 = 36 := by decide
theorem kB_48 : (Int8.ofInt 48).toInt32 = 48 := by decide
theorem kB_57 : (Int8.ofInt 57).toInt32 = 57 := by decide
theorem kB_59 : (Int8.ofInt 59).toInt32 = 59 := by decide
theorem kB_60 : (Int8.ofInt 60).toInt32 = 60 := by decide
theorem kB_61 : (Int8.ofInt 61).toInt32 = 61 := by decide
theorem kB_62 : (Int8.ofInt 62).toInt32 = 62 := by decide
theorem kB_63 : (Int8.ofInt 63).toInt32 = 63 := by decide
theorem kB_64 : (Int8.ofInt 64).toInt32 = 64 := by decide
theorem kB_70 : (Int8.ofInt 70).toInt32 = 70 := by decide
theorem kB_74 : (Int8.ofInt 74).toInt32 = 74 := by decide
theorem kB_79 : (Int8.ofInt 79).toInt32 = 79 := by decide
theorem kB_96 : (Int8.ofInt 96).toInt32 = 96 := by decide
theorem kB_97 : (Int8.ofInt 97).toInt32 = 97 := by decide
theorem kB_99 : (Int8.ofInt 99).toInt32 = 99 := by decide
theorem kB_100 : (Int8.ofInt 100).toInt32 = 100 := by decide
theorem kB_101 : (Int8.ofInt 101).toInt32 = 101 := by decide
theorem kB_122 : (Int8.ofInt 122).toInt32 = 122 := by decide
theorem kS_151 : (Int16.ofInt 151).toInt32 = 151 := by decide
theorem kS_199 : (Int16.ofInt 199).toInt32 = 199 := by decide
theorem kS_255 : (Int16.ofInt 255).toInt32 = 255 := by decide
theorem kS_259 : (Int16.ofInt 259).toInt32 = 259 := by decide
theorem kS_300 : (Int16.ofInt 300).toInt32 = 300 := by decide
theorem kS_619 : (Int16.ofInt 619).toInt32 = 619 := by decide
theorem kS_626 : (Int16.ofInt 626).toInt32 = 626 := by decide
theorem kS_900 : (Int16.ofInt 900).toInt32 = 900 := by decide
theorem kS_2000 : (Int16.ofInt 2000).toInt32 = 2000 := by decide
theorem kS_2504 : (Int16.ofInt 2504).toInt32 = 2504 := by decide
theorem kS_2505 : (Int16.ofInt 2505).toInt32 = 2505 := by decide
theorem kS_2506 : (Int16.ofInt 2506).toInt32 = 2506 := by decide
theorem kS_2507 : (Int16.ofInt 2507).toInt32 = 2507 := by decide
theorem kS_2508 : (Int16.ofInt 2508).toInt32 = 2508 := by decide
theorem kS_2510 : (Int16.ofInt 2510).toInt32 = 2510 := by decide
theorem kS_2516 : (Int16.ofInt 2516).toInt32 = 2516 := by decide
theorem kS_2517 : (Int16.ofInt 2517).toInt32 = 2517 := by decide
theorem kS_2529 : (Int16.ofInt 2529).toInt32 = 2529 := by decide
theorem kS_2535 : (Int16.ofInt 2535).toInt32 = 2535 := by decide
theorem kS_2583 : (Int16.ofInt 2583).toInt32 = 2583 := by decide
theorem kS_2655 : (Int16.ofInt 2655).toInt32 = 2655 := by decide
theorem kS_2763 : (Int16.ofInt 2763).toInt32 = 2763 := by decide
theorem kS_3041 : (Int16.ofInt 3041).toInt32 = 3041 := by decide
theorem kS_3123 : (Int16.ofInt 3123).toInt32 = 3123 := by decide
theorem kS_3130 : (Int16.ofInt 3130).toInt32 = 3130 := by decide
theorem kS_9999 : (Int16.ofInt 9999).toInt32 = 9999 := by decide
theorem kS_11261 : (Int16.ofInt 11261).toInt32 = 11261 := by decide
theorem kN_0 : (0 : Int32).toNatClampNeg = 0 := by decide
theorem kN_1 : (1 : Int32).toNatClampNeg = 1 := by decide
theorem kN_2 : (2 : Int32).toNatClampNeg = 2 := by decide
theorem kN_3 : (3 : Int32).toNatClampNeg = 3 := by decide
theorem kN_4 : (4 : Int32).toNatClampNeg = 4 := by decide
theorem kN_5 : (5 : Int32).toNatClampNeg = 5 := by decide
theorem kN_6 : (6 : Int32).toNatClampNeg = 6 := by decide
theorem kN_7 : (7 : Int32).toNatClampNeg = 7 := by decide
theorem kN_8 : (8 : Int32).toNatClampNeg = 8 := by decide
theorem kN_9 : (9 : Int32).toNatClampNeg = 9 := by decide
theorem kN_10 : (10 : Int32).toNatClampNeg = 10 := by decide
theorem kN_11 : (11 : Int32).toNatClampNeg = 11 := by decide
theorem kN_12 : (12 : Int32).toNatClampNeg = 12 := by decide
theorem kN_18 : (18 : Int32).toNatClampNeg = 18 := by decide
theorem kN_36 : (36 : Int32).toNatClampNeg = 36 := by decide
theorem kN_48 : (48 : Int32).toNatClampNeg = 48 := by decide
theorem kN_60 : (60 : Int32).toNatClampNeg = 60 := by decide
theorem kN_2504 : (2504 : Int32).toNatClampNeg = 2504 := by decide
theorem kN_2505 : (2505 : Int32).toNatClampNeg = 2505 := by decide
theorem kN_2506 : (2506 : Int32).toNatClampNeg = 2506 := by decide
theorem kN_2507 : (2507 : Int32).toNatClampNeg = 2507 := by decide
theorem kN_2508 : (2508 : Int32).toNatClampNeg = 2508 := by decide
theorem kN_2516 : (2516 : Int32).toNatClampNeg = 2516 := by decide
theorem kN_3123 : (3123 : Int32).toNatClampNeg = 3123 := by decide
theorem inX0 : ∀ w ∈ u_ws RX0 TX0 3, w ∈ o_tb := show ∀ w ∈ [u_lay RX0 TX0 0, u_lay RX0 TX0 1, u_lay RX0 TX0 2], w ∈ o_tb from (List.forall_mem_cons.mpr ⟨w_2_189, (List.forall_mem_cons.mpr ⟨w_2_191, (List.forall_mem_cons.mpr ⟨w_2_193, (fun _ h => absurd h List.not_mem_nil)⟩)⟩)⟩)
theorem inX1 : ∀ w ∈ u_ws RX1 TX1 6, w ∈ o_tb := show ∀ w ∈ [u_lay RX1 TX1 0, u_lay RX1 TX1 1, u_lay RX1 TX1 2, u_lay RX1 TX1 3, u_lay RX1 TX1 4, u_lay RX1 TX1 5], w ∈ o_tb from (List.forall_mem_cons.mpr ⟨w_1_95, (List.forall_mem_cons.mpr ⟨w_1_97, (List.forall_mem_cons.mpr ⟨w_1_99, (List.forall_mem_cons.mpr ⟨w_1_101, (List.forall_mem_cons.mpr ⟨w_1_103, (List.forall_mem_cons.mpr ⟨w_1_105, (fun _ h => absurd h List.not_mem_nil)⟩)⟩)⟩)⟩)⟩)⟩)
theorem inX2 : ∀ w ∈ u_ws RX2 TX2 8, w ∈ o_tb := show ∀ w ∈ [u_lay RX2 TX2 0, u_lay RX2 TX2 1, u_lay RX2 TX2 2, u_lay RX2 TX2 3, u_lay RX2 TX2 4, u_lay RX2 TX2 5, u_lay RX2 TX2 6, u_lay RX2 TX2 7], w ∈ o_tb from (List.forall_mem_cons.mpr ⟨w_2_115, (List.forall_mem_cons.mpr ⟨w_2_117, (List.forall_mem_cons.mpr ⟨w_2_119, (List.forall_mem_cons.mpr ⟨w_2_121, (List.forall_mem_cons.mpr ⟨w_2_123, (List.forall_mem_cons.mpr ⟨w_2_125, (List.forall_mem_cons.mpr ⟨w_2_127, (List.forall_mem_cons.mpr ⟨w_2_129, (fun _ h => absurd h List.not_mem_nil)⟩)⟩)⟩)⟩)⟩)⟩)⟩)⟩)
theorem inX3 : ∀ w ∈ u_ws RX3 TX3 7, w ∈ o_tb := show ∀ w ∈ [u_lay RX3 TX3 0, u_lay RX3 TX3 1, u_lay RX3 TX3 2, u_lay RX3 TX3 3, u_lay RX3 TX3 4, u_lay RX3 TX3 5, u_lay RX3 TX3 6], w ∈ o_tb from (List.forall_mem_cons.mpr ⟨w_1_227, (List.forall_mem_cons.mpr ⟨w_1_229, (List.forall_mem_cons.mpr ⟨w_1_231, (List.forall_mem_cons.mpr ⟨w_1_233, (List.forall_mem_cons.mpr ⟨w_1_235, (List.forall_mem_cons.mpr ⟨w_1_237, (List.forall_mem_cons.mpr ⟨w_1_239, (fun _ h => absurd h List.not_mem_nil)⟩)⟩)⟩)⟩)⟩)⟩)⟩)
theorem inX4 : ∀ w ∈ u_ws RX4 TX4 12, w ∈ o_tb := show ∀ w ∈ [u_lay RX4 TX4 0, u_lay RX4 TX4 1, u_lay RX4 TX4 2, u_lay RX4 TX4 3, u_lay RX4 TX4 4, u_lay RX4 TX4 5, u_lay RX4 TX4 6, u_lay RX4 TX4 7, u_lay RX4 TX4 8, u_lay RX4 TX4 9, u_lay RX4 TX4 10, u_lay RX4 TX4 11], w ∈ o_tb from (List.forall_mem_cons.mpr ⟨w_2_31, (List.forall_mem_cons.mpr ⟨w_2_33, (List.forall_mem_cons.mpr ⟨w_2_35, (List.forall_mem_cons.mpr ⟨w_2_37, (List.forall_mem_cons.mpr ⟨w_2_39, (List.forall_mem_cons.mpr ⟨w_2_41, (List.forall_mem_cons.mpr ⟨w_2_43, (List.forall_mem_cons.mpr ⟨w_2_45, (List.forall_mem_cons.mpr ⟨w_2_47, (List.forall_mem_cons.mpr ⟨w_2_49, (List.forall_mem_cons.mpr ⟨w_2_51, (List.forall_mem_cons.mpr ⟨w_2_53, (fun _ h => absurd h List.not_mem_nil)⟩)⟩)⟩)⟩)⟩)⟩)⟩)⟩)⟩)⟩)⟩)⟩)
theorem inX5 : ∀ w ∈ u_ws RX5 TX5 4, w ∈ o_tb := show ∀ w ∈ [u_lay RX5 TX5 0, u_lay RX5 TX5 1, u_lay RX5 TX5 2, u_lay RX5 TX5 3], w ∈ o_tb from (List.forall_mem_cons.mpr ⟨w_2_171, (List.forall_mem_cons.mpr ⟨w_2_173, (List.forall_mem_cons.mpr ⟨w_2_175, (List.forall_mem_cons.mpr ⟨w_2_177, (fun _ h => absurd h List.not_mem_nil)⟩)⟩)⟩)⟩)
theorem inX6 : ∀ w ∈ u_ws RX6 TX6 5, w ∈ o_tb := show ∀ w ∈ [u_lay RX6 TX6 0, u_lay RX6 TX6 1, u_lay RX6 TX6 2, u_lay RX6 TX6 3, u_lay RX6 TX6 4], w ∈ o_tb from (List.forall_mem_cons.mpr ⟨w_2_147, (List.forall_mem_cons.mpr ⟨w_2_149, (List.forall_mem_cons.mpr ⟨w_2_151, (List.forall_mem_cons.mpr ⟨w_2_153, (List.forall_mem_cons.mpr ⟨w_2_155, (fun _ h => absurd h List.not_mem_nil)⟩)⟩)⟩)⟩)⟩)
theorem inX7 : ∀ w ∈ u_ws RX7 TX7 4, w ∈ o_tb := show ∀ w ∈ [u_lay RX7 TX7 0, u_lay RX7 TX7 1, u_lay RX7 TX7 2, u_lay RX7 TX7 3], w ∈ o_tb from (List.forall_mem_cons.mpr ⟨w_1_46, (List.forall_mem_cons.mpr ⟨w_1_48, (List.forall_mem_cons.mpr ⟨w_1_50, (List.forall_mem_cons.mpr ⟨w_1_52, (fun _ h => absurd h List.not_mem_nil)⟩)⟩)⟩)⟩)
theorem inX8 : ∀ w ∈ u_ws RX8 TX8 18, w ∈ o_tb := show ∀ w ∈ [u_lay RX8 TX8 0, u_lay RX8 TX8 1, u_lay RX8 TX8 2, u_lay RX8 TX8 3, u_lay RX8 TX8 4, u_lay RX8 TX8 5, u_lay RX8 TX8 6, u_lay RX8 TX8 7, u_lay RX8 TX8 8, u_lay RX8 TX8 9, u_lay RX8 TX8 10, u_lay RX8 TX8 11, u_lay RX8 TX8 12, u_lay RX8 TX8 13, u_lay RX8 TX8 14, u_lay RX8 TX8 15, u_lay RX8 TX8 16, u_lay RX8 TX8 17], w ∈ o_tb from (List.forall_mem_cons.mpr ⟨w_1_166, (List.forall_mem_cons.mpr ⟨w_1_168, (List.forall_mem_cons.mpr ⟨w_1_170, (List.forall_mem_cons.mpr ⟨w_1_172, (List.forall_mem_cons.mpr ⟨w_1_174, (List.forall_mem_cons.mpr ⟨w_1_176, (List.forall_mem_cons.mpr ⟨w_1_178, (List.forall_mem_cons.mpr ⟨w_1_180, (List.forall_mem_cons.mpr ⟨w_1_182, (List.forall_mem_cons.mpr ⟨w_1_184, (List.forall_mem_cons.mpr ⟨w_1_186, (List.forall_mem_cons.mpr ⟨w_1_188, (List.forall_mem_cons.mpr ⟨w_1_190, (List.forall_mem_cons.mpr ⟨w_1_192, (List.forall_mem_cons.mpr ⟨w_1_194, (List.forall_mem_cons.mpr ⟨w_1_196, (List.forall_mem_cons.mpr ⟨w_1_198, (List.forall_mem_cons.mpr ⟨w_1_200, (fun _ h => absurd h List.not_mem_nil)⟩)⟩)⟩)⟩)⟩)⟩)⟩)⟩)⟩)⟩)⟩)⟩)⟩)⟩)⟩)⟩)⟩)⟩)
theorem inX9 : ∀ w ∈ u_ws RX9 TX9 3, w ∈ o_tb := show ∀ w ∈ [u_lay RX9 TX9 0, u_lay RX9 TX9 1, u_lay RX9 TX9 2], w ∈ o_tb from (List.forall_mem_cons.mpr ⟨w_2_66, (List.forall_mem_cons.mpr ⟨w_2_68, (List.forall_mem_cons.mpr ⟨w_2_70, (fun _ h => absurd h List.not_mem_nil)⟩)⟩)⟩)
theorem inX10 : ∀ w ∈ u_ws RX10 TX10 5, w ∈ o_tb := show ∀ w ∈ [u_lay RX10 TX10 0, u_lay RX10 TX10 1, u_lay RX10 TX10 2, u_lay RX10 TX10 3, u_lay RX10 TX10 4], w ∈ o_tb from (List.forall_mem_cons.mpr ⟨w_2_84, (List.forall_mem_cons.mpr ⟨w_2_86, (List.forall_mem_cons.mpr ⟨w_2_88, (List.forall_mem_cons.mpr ⟨w_2_90, (List.forall_mem_cons.mpr ⟨w_2_92, (fun _ h => absurd h List.not_mem_nil)⟩)⟩)⟩)⟩)⟩)
theorem inX11 : ∀ w ∈ u_ws RX11 TX11 19, w ∈ o_tb := show ∀ w ∈ [u_lay RX11 TX11 0, u_lay RX11 TX11 1, u_lay RX11 TX11 2, u_lay RX11 TX11 3, u_lay RX11 TX11 4, u_lay RX11 TX11 5, u_lay RX11 TX11 6, u_lay RX11 TX11 7, u_lay RX11 TX11 8, u_lay RX11 TX11 9, u_lay RX11 TX11 10, u_lay RX11 TX11 11, u_lay RX11 TX11 12, u_lay RX11 TX11 13, u_lay RX11 TX11 14, u_lay RX11 TX11 15, u_lay RX11 TX11 16, u_lay RX11 TX11 17, u_lay RX11 TX11 18], w ∈ o_tb from (List.forall_mem_cons.mpr ⟨w_2_215, (List.forall_mem_cons.mpr ⟨w_2_217, (List.forall_mem_cons.mpr ⟨w_2_219, (List.forall_mem_cons.mpr ⟨w_2_221, (List.forall_mem_cons.mpr ⟨w_2_223, (List.forall_mem_cons.mpr ⟨w_2_225, (List.forall_mem_cons.mpr ⟨w_2_227, (List.forall_mem_cons.mpr ⟨w_2_229, (List.forall_mem_cons.mpr ⟨w_2_231, (List.forall_mem_cons.mpr ⟨w_2_233, (List.forall_mem_cons.mpr ⟨w_2_235, (List.forall_mem_cons.mpr ⟨w_2_237, (List.forall_mem_cons.mpr ⟨w_2_239, (List.forall_mem_cons.mpr ⟨w_3_1, (List.forall_mem_cons.mpr ⟨w_3_3, (List.forall_mem_cons.mpr ⟨w_3_5, (List.forall_mem_cons.mpr ⟨w_3_7, (List.forall_mem_cons.mpr ⟨w_3_9, (List.forall_mem_cons.mpr ⟨w_3_11, (fun _ h => absurd h List.not_mem_nil)⟩)⟩)⟩)⟩)⟩)⟩)⟩)⟩)⟩)⟩)⟩)⟩)⟩)⟩)⟩)⟩)⟩)⟩)⟩)
theorem inX12 : ∀ w ∈ u_ws RX12 TX12 39, w ∈ o_tb := show ∀ w ∈ [u_lay RX12 TX12 0, u_lay RX12 TX12 1, u_lay RX12 TX12 2, u_lay RX12 TX12 3, u_lay RX12 TX12 4, u_lay RX12 TX12 5, u_lay RX12 TX12 6, u_lay RX12 TX12 7, u_lay RX12 TX12 8, u_lay RX12 TX12 9, u_lay RX12 TX12 10, u_lay RX12 TX12 11, u_lay RX12 TX12 12, u_lay RX12 TX12 13, u_lay RX12 TX12 14, u_lay RX12 TX12 15, u_lay RX12 TX12 16, u_lay RX12 TX12 17, u_lay RX12 TX12 18, u_lay RX12 TX12 19, u_lay RX12 TX12 20, u_lay RX12 TX12 21, u_lay RX12 TX12 22, u_lay RX12 TX12 23, u_lay RX12 TX12 24, u_lay RX12 TX12 25, u_lay RX12 TX12 26, u_lay RX12 TX12 27, u_lay RX12 TX12 28, u_lay RX12 TX12 29, u_lay RX12 TX12 30, u_lay RX12 TX12 31, u_lay RX12 TX12 32, u_lay RX12 TX12 33, u_lay RX12 TX12 34, u_lay RX12 TX12 35, u_lay RX12 TX12 36, u_lay RX12 TX12 37, u_lay RX12 TX12 38], w ∈ o_tb from (List.forall_mem_cons.mpr ⟨w_6_155, (List.forall_mem_cons.mpr ⟨w_6_157, (List.forall_mem_cons.mpr ⟨w_6_159, (List.forall_mem_cons.mpr ⟨w_6_161, (List.forall_mem_cons.mpr ⟨w_6_163, (List.forall_mem_cons.mpr ⟨w_6_165, (List.forall_mem_cons.mpr ⟨w_6_167, (List.forall_mem_cons.mpr ⟨w_6_169, (List.forall_mem_cons.mpr ⟨w_6_171, (List.forall_mem_cons.mpr ⟨w_6_173, (List.forall_mem_cons.mpr ⟨w_6_175, (List.forall_mem_cons.mpr ⟨w_6_177, (List.forall_mem_cons.mpr ⟨w_6_179, (List.forall_mem_cons.mpr ⟨w_6_181, (List.forall_mem_cons.mpr ⟨w_6_183, (List.forall_mem_cons.mpr ⟨w_6_185, (List.forall_mem_cons.mpr ⟨w_6_187, (List.forall_mem_cons.mpr ⟨w_6_189, (List.forall_mem_cons.mpr ⟨w_6_191, (List.forall_mem_cons.mpr ⟨w_6_193, (List.forall_mem_cons.mpr ⟨w_6_195, (List.forall_mem_cons.mpr ⟨w_6_197, (List.forall_mem_cons.mpr ⟨w_6_199, (List.forall_mem_cons.mpr ⟨w_6_201, (List.forall_mem_cons.mpr ⟨w_6_203, (List.forall_mem_cons.mpr ⟨w_6_205, (List.forall_mem_cons.mpr ⟨w_6_207, (List.forall_mem_cons.mpr ⟨w_6_209, (List.forall_mem_cons.mpr ⟨w_6_211, (List.forall_mem_cons.mpr ⟨w_6_213, (List.forall_mem_cons.mpr ⟨w_6_215, (List.forall_mem_cons.mpr ⟨w_6_217, (List.forall_mem_cons.mpr ⟨w_6_219, (List.forall_mem_cons.mpr ⟨w_6_221, (List.forall_mem_cons.mpr ⟨w_6_223, (List.forall_mem_cons.mpr ⟨w_6_225, (List.forall_mem_cons.mpr ⟨w_6_227, (List.forall_mem_cons.mpr ⟨w_6_229, (List.forall_mem_cons.mpr ⟨w_6_231, (fun _ h => absurd h List.not_mem_nil)⟩)⟩)⟩)⟩)⟩)⟩)⟩)⟩)⟩)⟩)⟩)⟩)⟩)⟩)⟩)⟩)⟩)⟩)⟩)⟩)⟩)⟩)⟩)⟩)⟩)⟩)⟩)⟩)⟩)⟩)⟩)⟩)⟩)⟩)⟩)⟩)⟩)⟩)⟩)
theorem mco_min : Cond.code Lib.Math.min.name Lib.Math.min.code 2 (some .int) ∈ o_tb := w_3_106
theorem mst_min : Cond.static Lib.Math.min.name ∈ o_tb := w_3_105
theorem mco_max : Cond.code Lib.Math.max.name Lib.Math.max.code 2 (some .int) ∈ o_tb := w_5_219
theorem mst_max : Cond.static Lib.Math.max.name ∈ o_tb := w_5_218
theorem mco_maxL : Cond.code Lib.MathLoose.max_long.x Lib.MathLoose.max_long.code 4 (some .long) ∈ o_tb := w_5_68
theorem mst_maxL : Cond.static Lib.MathLoose.max_long.x ∈ o_tb := w_5_67
theorem mini : Cond.initialized "java/lang/Math" ∈ o_tb := w_1_16
theorem acn : Cond.native arraycopyName ∈ o_tb := w_3_79
theorem acs : Cond.static arraycopyName ∈ o_tb := w_3_78
theorem aci : Cond.initialized "java/lang/System" ∈ o_tb := w_1_15
theorem mlX11_157 : Cond.methodLink "OddCancel" 157 arraycopyName ∈ o_tb := w_3_77
theorem mlX11_471 : Cond.methodLink "OddCancel" 471 Lib.MathLoose.max_long.x ∈ o_tb := w_5_66
theorem mlX1_31 : Cond.methodLink "OddCancel$Letters" 31 arraycopyName ∈ o_tb := w_4_42
theorem mlX3_35 : Cond.methodLink "OddCancel$Plan" 35 arraycopyName ∈ o_tb := w_4_101
theorem mlX4_25 : Cond.methodLink "OddCancel$Reader" 25 Lib.Math.min.name ∈ o_tb := w_3_104
theorem mlX4_72 : Cond.methodLink "OddCancel$Reader" 72 ⟨"java/lang/String", "length", "()I"⟩ ∈ o_tb := w_3_118
theorem mlX4_77 : Cond.methodLink "OddCancel$Reader" 77 ⟨"java/lang/String", "charAt", "(I)C"⟩ ∈ o_tb := w_3_128
theorem mlX5_22 : Cond.methodLink "OddCancel$Rows" 22 ⟨"java/util/Arrays", "fill", "([JJ)V"⟩ ∈ o_tb := w_5_172
theorem mlX5_67 : Cond.methodLink "OddCancel$Rows" 67 Lib.Math.max.name ∈ o_tb := w_5_217
theorem mlX5_73 : Cond.methodLink "OddCancel$Rows" 73 Lib.Math.min.name ∈ o_tb := w_5_220
theorem mlX6_18 : Cond.methodLink "OddCancel$Trails" 18 ⟨"java/util/Arrays", "fill", "([II)V"⟩ ∈ o_tb := w_5_114
theorem mlX7_26 : Cond.methodLink "OddCancel$Tray" 26 ⟨"java/util/Arrays", "fill", "([JJ)V"⟩ ∈ o_tb := w_3_46
theorem mlX8_73 : Cond.methodLink "OddCancel$Valley" 73 ⟨"java/util/Arrays", "fill", "([II)V"⟩ ∈ o_tb := w_3_177
theorem mlX8_82 : Cond.methodLink "OddCancel$Valley" 82 arraycopyName ∈ o_tb := w_4_37
theorem mlX12_142 : Cond.methodLink "OddCancelModel" 142 Lib.Math.min.name ∈ o_tb := w_7_72
theorem mlX12_147 : Cond.methodLink "OddCancelModel" 147 ⟨"java/lang/String", "length", "()I"⟩ ∈ o_tb := w_7_86
theorem mlX12_153 : Cond.methodLink "OddCancelModel" 153 ⟨"java/lang/String", "charAt", "(I)C"⟩ ∈ o_tb := w_7_87
theorem mlX12_420 : Cond.methodLink "OddCancelModel" 420 Lib.Math.max.name ∈ o_tb := w_9_52
theorem cbJ6_bitCount_0f7a4 : o_CB mJ6_bitCount_0f7a4 1 := ⟨w_6_0, w_1_21, ⟨by decide, by decide, by decide +kernel⟩, rfl, Nat.le_of_ble_eq_true rfl⟩
theorem cbX0_best : o_CB mX0_best 3 := ⟨w_6_28, w_1_12, ⟨by decide, by decide, by decide +kernel⟩, rfl, Nat.le_of_ble_eq_true rfl⟩
theorem cbX0_firstTaken : o_CB mX0_firstTaken 1 := ⟨w_6_40, w_1_12, ⟨by decide, by decide, by decide +kernel⟩, rfl, Nat.le_of_ble_eq_true rfl⟩
theorem cbX0_outcome : o_CB mX0_outcome 1 := ⟨w_6_24, w_1_12, ⟨by decide, by decide, by decide +kernel⟩, rfl, Nat.le_of_ble_eq_true rfl⟩
theorem cbX0_sit : o_CB mX0_sit 1 := ⟨w_6_11, w_1_12, ⟨by decide, by decide, by decide +kernel⟩, rfl, Nat.le_of_ble_eq_true rfl⟩
theorem cbX0_takenThen : o_CB mX0_takenThen 4 := ⟨w_6_32, w_1_12, ⟨by decide, by decide, by decide +kernel⟩, rfl, Nat.le_of_ble_eq_true rfl⟩
theorem cbX10_accept : o_CB mX10_accept 1 := ⟨w_4_58, w_1_8, ⟨by decide, by decide, by decide +kernel⟩, rfl, Nat.le_of_ble_eq_true rfl⟩
theorem cbX10_beginStep : o_CB mX10_beginStep 1 := ⟨w_4_75, w_1_8, ⟨by decide, by decide, by decide +kernel⟩, rfl, Nat.le_of_ble_eq_true rfl⟩
theorem cbX10_begins : o_CB mX10_begins 1 := ⟨w_4_78, w_1_8, ⟨by decide, by decide, by decide +kernel⟩, rfl, Nat.le_of_ble_eq_true rfl⟩
theorem cbX10_takeEnd : o_CB mX10_takeEnd 0 := ⟨w_4_64, w_1_8, ⟨by decide, by decide, by decide +kernel⟩, rfl, Nat.le_of_ble_eq_true rfl⟩
theorem cbX10_takeNumber : o_CB mX10_takeNumber 2 := ⟨w_4_86, w_1_8, ⟨by decide, by decide, by decide +kernel⟩, rfl, Nat.le_of_ble_eq_true rfl⟩
theorem cbX10_takePost : o_CB mX10_takePost 0 := ⟨w_4_91, w_1_8, ⟨by decide, by decide, by decide +kernel⟩, rfl, Nat.le_of_ble_eq_true rfl⟩
theorem cbX10_takeRest : o_CB mX10_takeRest 1 := ⟨w_4_82, w_1_8, ⟨by decide, by decide, by decide +kernel⟩, rfl, Nat.le_of_ble_eq_true rfl⟩
theorem cbX10_takeTest : o_CB mX10_takeTest 0 := ⟨w_4_96, w_1_8, ⟨by decide, by decide, by decide +kernel⟩, rfl, Nat.le_of_ble_eq_true rfl⟩
theorem cbX11_commonDivisor : o_CB mX11_commonDivisor 2 := ⟨w_5_65, w_1_1, ⟨by decide, by decide, by decide +kernel⟩, rfl, Nat.le_of_ble_eq_true rfl⟩
theorem cbX11_ends : o_CB mX11_ends 1 := ⟨w_3_41, w_1_1, ⟨by decide, by decide, by decide +kernel⟩, rfl, Nat.le_of_ble_eq_true rfl⟩
theorem cbX11_gives : o_CB mX11_gives 1 := ⟨w_4_50, w_1_1, ⟨by decide, by decide, by decide +kernel⟩, rfl, Nat.le_of_ble_eq_true rfl⟩
theorem cbX11_givesIfAny : o_CB mX11_givesIfAny 1 := ⟨w_4_138, w_1_1, ⟨by decide, by decide, by decide +kernel⟩, rfl, Nat.le_of_ble_eq_true rfl⟩
theorem cbX11_isTray : o_CB mX11_isTray 1 := ⟨w_3_32, w_1_1, ⟨by decide, by decide, by decide +kernel⟩, rfl, Nat.le_of_ble_eq_true rfl⟩
theorem cbX11_isWay : o_CB mX11_isWay 4 := ⟨w_5_109, w_1_1, ⟨by decide, by decide, by decide +kernel⟩, rfl, Nat.le_of_ble_eq_true rfl⟩
theorem cbX11_placeStatus : o_CB mX11_placeStatus 2 := ⟨w_3_56, w_1_1, ⟨by decide, by decide, by decide +kernel⟩, rfl, Nat.le_of_ble_eq_true rfl⟩
theorem cbX11_refuses : o_CB mX11_refuses 1 := ⟨w_3_72, w_1_1, ⟨by decide, by decide, by decide +kernel⟩, rfl, Nat.le_of_ble_eq_true rfl⟩
theorem cbX11_rowStatus : o_CB mX11_rowStatus 2 := ⟨w_5_167, w_1_1, ⟨by decide, by decide, by decide +kernel⟩, rfl, Nat.le_of_ble_eq_true rfl⟩
theorem cbX11_setFraction : o_CB mX11_setFraction 2 := ⟨w_5_62, w_1_1, ⟨by decide, by decide, by decide +kernel⟩, rfl, Nat.le_of_ble_eq_true rfl⟩
theorem cbX11_splitStatus : o_CB mX11_splitStatus 4 := ⟨w_5_211, w_1_1, ⟨by decide, by decide, by decide +kernel⟩, rfl, Nat.le_of_ble_eq_true rfl⟩
theorem cbX11_strikeRowStatus : o_CB mX11_strikeRowStatus 2 := ⟨w_5_162, w_1_1, ⟨by decide, by decide, by decide +kernel⟩, rfl, Nat.le_of_ble_eq_true rfl⟩
theorem cbX11_within : o_CB mX11_within 3 := ⟨w_3_36, w_1_1, ⟨by decide, by decide, by decide +kernel⟩, rfl, Nat.le_of_ble_eq_true rfl⟩
theorem cbX12_aLaw : o_CB mX12_aLaw 0 := ⟨w_7_139, w_1_13, ⟨by decide, by decide, by decide +kernel⟩, rfl, Nat.le_of_ble_eq_true rfl⟩
theorem cbX12_aLetter : o_CB mX12_aLetter 0 := ⟨w_7_159, w_1_13, ⟨by decide, by decide, by decide +kernel⟩, rfl, Nat.le_of_ble_eq_true rfl⟩
theorem cbX12_aPerson : o_CB mX12_aPerson 0 := ⟨w_7_123, w_1_13, ⟨by decide, by decide, by decide +kernel⟩, rfl, Nat.le_of_ble_eq_true rfl⟩
theorem cbX12_aStrike : o_CB mX12_aStrike 0 := ⟨w_7_91, w_1_13, ⟨by decide, by decide, by decide +kernel⟩, rfl, Nat.le_of_ble_eq_true rfl⟩
theorem cbX12_actRow : o_CB mX12_actRow 2 := ⟨w_8_4, w_1_13, ⟨by decide, by decide, by decide +kernel⟩, rfl, Nat.le_of_ble_eq_true rfl⟩
theorem cbX12_ahead : o_CB mX12_ahead 0 := ⟨w_7_60, w_1_13, ⟨by decide, by decide, by decide +kernel⟩, rfl, Nat.le_of_ble_eq_true rfl⟩
theorem cbX12_anAct : o_CB mX12_anAct 0 := ⟨w_7_151, w_1_13, ⟨by decide, by decide, by decide +kernel⟩, rfl, Nat.le_of_ble_eq_true rfl⟩
theorem cbX12_areTurns : o_CB mX12_areTurns 1 := ⟨w_9_66, w_1_13, ⟨by decide, by decide, by decide +kernel⟩, rfl, Nat.le_of_ble_eq_true rfl⟩
theorem cbX12_areTwo : o_CB mX12_areTwo 2 := ⟨w_8_38, w_1_13, ⟨by decide, by decide, by decide +kernel⟩, rfl, Nat.le_of_ble_eq_true rfl⟩
theorem cbX12_begins : o_CB mX12_begins 2 := ⟨w_7_56, w_1_13, ⟨by decide, by decide, by decide +kernel⟩, rfl, Nat.le_of_ble_eq_true rfl⟩
theorem cbX12_behindEnds : o_CB mX12_behindEnds 1 := ⟨w_9_136, w_1_13, ⟨by decide, by decide, by decide +kernel⟩, rfl, Nat.le_of_ble_eq_true rfl⟩
theorem cbX12_bits : o_CB mX12_bits 1 := ⟨w_9_59, w_1_13, ⟨by decide, by decide, by decide +kernel⟩, rfl, Nat.le_of_ble_eq_true rfl⟩
theorem cbX12_brings : o_CB mX12_brings 1 := ⟨w_8_69, w_1_13, ⟨by decide, by decide, by decide +kernel⟩, rfl, Nat.le_of_ble_eq_true rfl⟩
theorem cbX12_byteAt : o_CB mX12_byteAt 1 := ⟨w_7_64, w_1_13, ⟨by decide, by decide, by decide +kernel⟩, rfl, Nat.le_of_ble_eq_true rfl⟩
theorem cbX12_comesBack : o_CB mX12_comesBack 1 := ⟨w_8_228, w_1_13, ⟨by decide, by decide, by decide +kernel⟩, rfl, Nat.le_of_ble_eq_true rfl⟩
theorem cbX12_copies : o_CB mX12_copies 2 := ⟨w_9_153, w_1_13, ⟨by decide, by decide, by decide +kernel⟩, rfl, Nat.le_of_ble_eq_true rfl⟩
theorem cbX12_coverRow : o_CB mX12_coverRow 1 := ⟨w_8_22, w_1_13, ⟨by decide, by decide, by decide +kernel⟩, rfl, Nat.le_of_ble_eq_true rfl⟩
theorem cbX12_cut : o_CB mX12_cut 2 := ⟨w_7_27, w_1_13, ⟨by decide, by decide, by decide +kernel⟩, rfl, Nat.le_of_ble_eq_true rfl⟩
theorem cbX12_dayGoes : o_CB mX12_dayGoes 0 := ⟨w_8_65, w_1_13, ⟨by decide, by decide, by decide +kernel⟩, rfl, Nat.le_of_ble_eq_true rfl⟩
theorem cbX12_daysBy : o_CB mX12_daysBy 1 := ⟨w_9_111, w_1_13, ⟨by decide, by decide, by decide +kernel⟩, rfl, Nat.le_of_ble_eq_true rfl⟩
theorem cbX12_daysGo : o_CB mX12_daysGo 1 := ⟨w_8_61, w_1_13, ⟨by decide, by decide, by decide +kernel⟩, rfl, Nat.le_of_ble_eq_true rfl⟩
theorem cbX12_does : o_CB mX12_does 1 := ⟨w_9_107, w_1_13, ⟨by decide, by decide, by decide +kernel⟩, rfl, Nat.le_of_ble_eq_true rfl⟩
theorem cbX12_doesFit : o_CB mX12_doesFit 5 := ⟨w_8_85, w_1_13, ⟨by decide, by decide, by decide +kernel⟩, rfl, Nat.le_of_ble_eq_true rfl⟩
theorem cbX12_draw : o_CB mX12_draw 1 := ⟨w_9_123, w_1_13, ⟨by decide, by decide, by decide +kernel⟩, rfl, Nat.le_of_ble_eq_true rfl⟩
theorem cbX12_drunkFor : o_CB mX12_drunkFor 1 := ⟨w_8_93, w_1_13, ⟨by decide, by decide, by decide +kernel⟩, rfl, Nat.le_of_ble_eq_true rfl⟩
theorem cbX12_echoFrom : o_CB mX12_echoFrom 1 := ⟨w_8_212, w_1_13, ⟨by decide, by decide, by decide +kernel⟩, rfl, Nat.le_of_ble_eq_true rfl⟩
theorem cbX12_fails : o_CB mX12_fails 1 := ⟨w_7_99, w_1_13, ⟨by decide, by decide, by decide +kernel⟩, rfl, Nat.le_of_ble_eq_true rfl⟩
theorem cbX12_findHere : o_CB mX12_findHere 2 := ⟨w_7_107, w_1_13, ⟨by decide, by decide, by decide +kernel⟩, rfl, Nat.le_of_ble_eq_true rfl⟩
theorem cbX12_findsLetter : o_CB mX12_findsLetter 2 := ⟨w_9_25, w_1_13, ⟨by decide, by decide, by decide +kernel⟩, rfl, Nat.le_of_ble_eq_true rfl⟩
theorem cbX12_firstLaw : o_CB mX12_firstLaw 4 := ⟨w_8_81, w_1_13, ⟨by decide, by decide, by decide +kernel⟩, rfl, Nat.le_of_ble_eq_true rfl⟩
theorem cbX12_four : o_CB mX12_four 1 := ⟨w_7_44, w_1_13, ⟨by decide, by decide, by decide +kernel⟩, rfl, Nat.le_of_ble_eq_true rfl⟩
theorem cbX12_gives : o_CB mX12_gives 1 := ⟨w_7_175, w_1_13, ⟨by decide, by decide, by decide +kernel⟩, rfl, Nat.le_of_ble_eq_true rfl⟩
theorem cbX12_handOf : o_CB mX12_handOf 1 := ⟨w_7_222, w_1_13, ⟨by decide, by decide, by decide +kernel⟩, rfl, Nat.le_of_ble_eq_true rfl⟩
theorem cbX12_handTo : o_CB mX12_handTo 1 := ⟨w_7_131, w_1_13, ⟨by decide, by decide, by decide +kernel⟩, rfl, Nat.le_of_ble_eq_true rfl⟩
theorem cbX12_hasCover : o_CB mX12_hasCover 1 := ⟨w_9_132, w_1_13, ⟨by decide, by decide, by decide +kernel⟩, rfl, Nat.le_of_ble_eq_true rfl⟩
theorem cbX12_holds : o_CB mX12_holds 1 := ⟨w_9_128, w_1_13, ⟨by decide, by decide, by decide +kernel⟩, rfl, Nat.le_of_ble_eq_true rfl⟩
theorem cbX12_inWords : o_CB mX12_inWords 1 := ⟨w_7_85, w_1_13, ⟨by decide, by decide, by decide +kernel⟩, rfl, Nat.le_of_ble_eq_true rfl⟩
theorem cbX12_is : o_CB mX12_is 1 := ⟨w_7_16, w_1_13, ⟨by decide, by decide, by decide +kernel⟩, rfl, Nat.le_of_ble_eq_true rfl⟩
theorem cbX12_isAsked : o_CB mX12_isAsked 4 := ⟨w_8_163, w_1_13, ⟨by decide, by decide, by decide +kernel⟩, rfl, Nat.le_of_ble_eq_true rfl⟩
theorem cbX12_isCouple : o_CB mX12_isCouple 2 := ⟨w_8_204, w_1_13, ⟨by decide, by decide, by decide +kernel⟩, rfl, Nat.le_of_ble_eq_true rfl⟩
theorem cbX12_isDigit : o_CB mX12_isDigit 1 := ⟨w_7_70, w_1_13, ⟨by decide, by decide, by decide +kernel⟩, rfl, Nat.le_of_ble_eq_true rfl⟩
theorem cbX12_isFrom : o_CB mX12_isFrom 3 := ⟨w_8_57, w_1_13, ⟨by decide, by decide, by decide +kernel⟩, rfl, Nat.le_of_ble_eq_true rfl⟩
theorem cbX12_isHand : o_CB mX12_isHand 1 := ⟨w_8_46, w_1_13, ⟨by decide, by decide, by decide +kernel⟩, rfl, Nat.le_of_ble_eq_true rfl⟩
theorem cbX12_isLaw : o_CB mX12_isLaw 1 := ⟨w_7_230, w_1_13, ⟨by decide, by decide, by decide +kernel⟩, rfl, Nat.le_of_ble_eq_true rfl⟩
theorem cbX12_isLetter : o_CB mX12_isLetter 1 := ⟨w_8_12, w_1_13, ⟨by decide, by decide, by decide +kernel⟩, rfl, Nat.le_of_ble_eq_true rfl⟩
theorem cbX12_isLine : o_CB mX12_isLine 4 := ⟨w_9_47, w_1_13, ⟨by decide, by decide, by decide +kernel⟩, rfl, Nat.le_of_ble_eq_true rfl⟩
theorem cbX12_isMail : o_CB mX12_isMail 4 := ⟨w_8_34, w_1_13, ⟨by decide, by decide, by decide +kernel⟩, rfl, Nat.le_of_ble_eq_true rfl⟩
theorem cbX12_isName : o_CB mX12_isName 1 := ⟨w_7_103, w_1_13, ⟨by decide, by decide, by decide +kernel⟩, rfl, Nat.le_of_ble_eq_true rfl⟩
theorem cbX12_isNowDrunk : o_CB mX12_isNowDrunk 1 := ⟨w_9_119, w_1_13, ⟨by decide, by decide, by decide +kernel⟩, rfl, Nat.le_of_ble_eq_true rfl⟩
theorem cbX12_isPerson : o_CB mX12_isPerson 1 := ⟨w_7_218, w_1_13, ⟨by decide, by decide, by decide +kernel⟩, rfl, Nat.le_of_ble_eq_true rfl⟩
theorem cbX12_isSign : o_CB mX12_isSign 1 := ⟨w_7_167, w_1_13, ⟨by decide, by decide, by decide +kernel⟩, rfl, Nat.le_of_ble_eq_true rfl⟩
theorem cbX12_isSmall : o_CB mX12_isSmall 1 := ⟨w_7_67, w_1_13, ⟨by decide, by decide, by decide +kernel⟩, rfl, Nat.le_of_ble_eq_true rfl⟩
theorem cbX12_isStrike : o_CB mX12_isStrike 1 := ⟨w_7_207, w_1_13, ⟨by decide, by decide, by decide +kernel⟩, rfl, Nat.le_of_ble_eq_true rfl⟩
theorem cbX12_isStruck : o_CB mX12_isStruck 3 := ⟨w_8_192, w_1_13, ⟨by decide, by decide, by decide +kernel⟩, rfl, Nat.le_of_ble_eq_true rfl⟩
theorem cbX12_isTaken : o_CB mX12_isTaken 2 := ⟨w_9_78, w_1_13, ⟨by decide, by decide, by decide +kernel⟩, rfl, Nat.le_of_ble_eq_true rfl⟩
theorem cbX12_isThere : o_CB mX12_isThere 1 := ⟨w_7_115, w_1_13, ⟨by decide, by decide, by decide +kernel⟩, rfl, Nat.le_of_ble_eq_true rfl⟩
theorem cbX12_isTray : o_CB mX12_isTray 1 := ⟨w_7_12, w_1_13, ⟨by decide, by decide, by decide +kernel⟩, rfl, Nat.le_of_ble_eq_true rfl⟩
theorem cbX12_isWay : o_CB mX12_isWay 4 := ⟨w_8_183, w_1_13, ⟨by decide, by decide, by decide +kernel⟩, rfl, Nat.le_of_ble_eq_true rfl⟩
theorem cbX12_isWeight : o_CB mX12_isWeight 1 := ⟨w_8_41, w_1_13, ⟨by decide, by decide, by decide +kernel⟩, rfl, Nat.le_of_ble_eq_true rfl⟩
theorem cbX12_lastLaw : o_CB mX12_lastLaw 4 := ⟨w_9_86, w_1_13, ⟨by decide, by decide, by decide +kernel⟩, rfl, Nat.le_of_ble_eq_true rfl⟩
theorem cbX12_lawRow : o_CB mX12_lawRow 1 := ⟨w_7_233, w_1_13, ⟨by decide, by decide, by decide +kernel⟩, rfl, Nat.le_of_ble_eq_true rfl⟩
theorem cbX12_laysEchoes : o_CB mX12_laysEchoes 0 := ⟨w_8_208, w_1_13, ⟨by decide, by decide, by decide +kernel⟩, rfl, Nat.le_of_ble_eq_true rfl⟩
theorem cbX12_laysVia : o_CB mX12_laysVia 3 := ⟨w_8_187, w_1_13, ⟨by decide, by decide, by decide +kernel⟩, rfl, Nat.le_of_ble_eq_true rfl⟩
theorem cbX12_letterRow : o_CB mX12_letterRow 1 := ⟨w_8_15, w_1_13, ⟨by decide, by decide, by decide +kernel⟩, rfl, Nat.le_of_ble_eq_true rfl⟩
theorem cbX12_linesFrom : o_CB mX12_linesFrom 5 := ⟨w_9_43, w_1_13, ⟨by decide, by decide, by decide +kernel⟩, rfl, Nat.le_of_ble_eq_true rfl⟩
theorem cbX12_lives : o_CB mX12_lives 1 := ⟨w_9_103, w_1_13, ⟨by decide, by decide, by decide +kernel⟩, rfl, Nat.le_of_ble_eq_true rfl⟩
theorem cbX12_nameHere : o_CB mX12_nameHere 0 := ⟨w_7_111, w_1_13, ⟨by decide, by decide, by decide +kernel⟩, rfl, Nat.le_of_ble_eq_true rfl⟩
theorem cbX12_newOne : o_CB mX12_newOne 3 := ⟨w_7_95, w_1_13, ⟨by decide, by decide, by decide +kernel⟩, rfl, Nat.le_of_ble_eq_true rfl⟩
theorem cbX12_number : o_CB mX12_number 3 := ⟨w_7_119, w_1_13, ⟨by decide, by decide, by decide +kernel⟩, rfl, Nat.le_of_ble_eq_true rfl⟩
theorem cbX12_oldOne : o_CB mX12_oldOne 3 := ⟨w_7_135, w_1_13, ⟨by decide, by decide, by decide +kernel⟩, rfl, Nat.le_of_ble_eq_true rfl⟩
theorem cbX12_oldPersonTo : o_CB mX12_oldPersonTo 1 := ⟨w_7_191, w_1_13, ⟨by decide, by decide, by decide +kernel⟩, rfl, Nat.le_of_ble_eq_true rfl⟩
theorem cbX12_orNone : o_CB mX12_orNone 1 := ⟨w_7_237, w_1_13, ⟨by decide, by decide, by decide +kernel⟩, rfl, Nat.le_of_ble_eq_true rfl⟩
theorem cbX12_otherTo : o_CB mX12_otherTo 2 := ⟨w_7_155, w_1_13, ⟨by decide, by decide, by decide +kernel⟩, rfl, Nat.le_of_ble_eq_true rfl⟩
theorem cbX12_personTo : o_CB mX12_personTo 1 := ⟨w_7_147, w_1_13, ⟨by decide, by decide, by decide +kernel⟩, rfl, Nat.le_of_ble_eq_true rfl⟩
theorem cbX12_plain : o_CB mX12_plain 1 := ⟨w_6_115, w_1_13, ⟨by decide, by decide, by decide +kernel⟩, rfl, Nat.le_of_ble_eq_true rfl⟩
theorem cbX12_plays : o_CB mX12_plays 1 := ⟨w_9_70, w_1_13, ⟨by decide, by decide, by decide +kernel⟩, rfl, Nat.le_of_ble_eq_true rfl⟩
theorem cbX12_posts : o_CB mX12_posts 4 := ⟨w_8_50, w_1_13, ⟨by decide, by decide, by decide +kernel⟩, rfl, Nat.le_of_ble_eq_true rfl⟩
theorem cbX12_postsBy : o_CB mX12_postsBy 3 := ⟨w_9_115, w_1_13, ⟨by decide, by decide, by decide +kernel⟩, rfl, Nat.le_of_ble_eq_true rfl⟩
theorem cbX12_refuse : o_CB mX12_refuse 1 := ⟨w_7_76, w_1_13, ⟨by decide, by decide, by decide +kernel⟩, rfl, Nat.le_of_ble_eq_true rfl⟩
theorem cbX12_ringFrom : o_CB mX12_ringFrom 1 := ⟨w_8_220, w_1_13, ⟨by decide, by decide, by decide +kernel⟩, rfl, Nat.le_of_ble_eq_true rfl⟩
theorem cbX12_rowAt : o_CB mX12_rowAt 2 := ⟨w_9_5, w_1_13, ⟨by decide, by decide, by decide +kernel⟩, rfl, Nat.le_of_ble_eq_true rfl⟩
theorem cbX12_sober : o_CB mX12_sober 4 := ⟨w_8_77, w_1_13, ⟨by decide, by decide, by decide +kernel⟩, rfl, Nat.le_of_ble_eq_true rfl⟩
theorem cbX12_spellsTo : o_CB mX12_spellsTo 2 := ⟨w_9_21, w_1_13, ⟨by decide, by decide, by decide +kernel⟩, rfl, Nat.le_of_ble_eq_true rfl⟩
theorem cbX12_strikeBy : o_CB mX12_strikeBy 1 := ⟨w_8_89, w_1_13, ⟨by decide, by decide, by decide +kernel⟩, rfl, Nat.le_of_ble_eq_true rfl⟩
theorem cbX12_strikeRow : o_CB mX12_strikeRow 1 := ⟨w_7_210, w_1_13, ⟨by decide, by decide, by decide +kernel⟩, rfl, Nat.le_of_ble_eq_true rfl⟩
theorem cbX12_strikeTo : o_CB mX12_strikeTo 1 := ⟨w_7_143, w_1_13, ⟨by decide, by decide, by decide +kernel⟩, rfl, Nat.le_of_ble_eq_true rfl⟩
theorem cbX12_struck : o_CB mX12_struck 4 := ⟨w_8_73, w_1_13, ⟨by decide, by decide, by decide +kernel⟩, rfl, Nat.le_of_ble_eq_true rfl⟩
theorem cbX12_taken : o_CB mX12_taken 1 := ⟨w_7_171, w_1_13, ⟨by decide, by decide, by decide +kernel⟩, rfl, Nat.le_of_ble_eq_true rfl⟩
theorem cbX12_tellsBy : o_CB mX12_tellsBy 2 := ⟨w_8_151, w_1_13, ⟨by decide, by decide, by decide +kernel⟩, rfl, Nat.le_of_ble_eq_true rfl⟩
theorem cbX12_test : o_CB mX12_test 1 := ⟨w_7_195, w_1_13, ⟨by decide, by decide, by decide +kernel⟩, rfl, Nat.le_of_ble_eq_true rfl⟩
theorem cbX12_valleyPart : o_CB mX12_valleyPart 0 := ⟨w_7_80, w_1_13, ⟨by decide, by decide, by decide +kernel⟩, rfl, Nat.le_of_ble_eq_true rfl⟩
theorem cbX12_wantSign : o_CB mX12_wantSign 1 := ⟨w_7_163, w_1_13, ⟨by decide, by decide, by decide +kernel⟩, rfl, Nat.le_of_ble_eq_true rfl⟩
theorem cbX12_wantWord : o_CB mX12_wantWord 2 := ⟨w_7_127, w_1_13, ⟨by decide, by decide, by decide +kernel⟩, rfl, Nat.le_of_ble_eq_true rfl⟩
theorem cbX12_weekOrder : o_CB mX12_weekOrder 2 := ⟨w_7_187, w_1_13, ⟨by decide, by decide, by decide +kernel⟩, rfl, Nat.le_of_ble_eq_true rfl⟩
theorem cbX12_weekStep : o_CB mX12_weekStep 0 := ⟨w_7_183, w_1_13, ⟨by decide, by decide, by decide +kernel⟩, rfl, Nat.le_of_ble_eq_true rfl⟩
theorem cbX12_weighs : o_CB mX12_weighs 2 := ⟨w_9_74, w_1_13, ⟨by decide, by decide, by decide +kernel⟩, rfl, Nat.le_of_ble_eq_true rfl⟩
theorem cbX12_worthBy : o_CB mX12_worthBy 2 := ⟨w_9_82, w_1_13, ⟨by decide, by decide, by decide +kernel⟩, rfl, Nat.le_of_ble_eq_true rfl⟩
theorem cbX12_wrongCovers : o_CB mX12_wrongCovers 4 := ⟨w_9_38, w_1_13, ⟨by decide, by decide, by decide +kernel⟩, rfl, Nat.le_of_ble_eq_true rfl⟩
theorem cbX12_wrongPlace : o_CB mX12_wrongPlace 2 := ⟨w_7_24, w_1_13, ⟨by decide, by decide, by decide +kernel⟩, rfl, Nat.le_of_ble_eq_true rfl⟩
theorem cbX12_wrongRow : o_CB mX12_wrongRow 2 := ⟨w_9_0, w_1_13, ⟨by decide, by decide, by decide +kernel⟩, rfl, Nat.le_of_ble_eq_true rfl⟩
theorem cbX1_add : o_CB mX1_add 5 := ⟨w_4_28, w_1_4, ⟨by decide, by decide, by decide +kernel⟩, rfl, Nat.le_of_ble_eq_true rfl⟩
theorem cbX1_copyFrom : o_CB mX1_copyFrom 1 := ⟨w_4_41, w_1_4, ⟨by decide, by decide, by decide +kernel⟩, rfl, Nat.le_of_ble_eq_true rfl⟩
theorem cbX1_dropAt : o_CB mX1_dropAt 1 := ⟨w_4_239, w_1_4, ⟨by decide, by decide, by decide +kernel⟩, rfl, Nat.le_of_ble_eq_true rfl⟩
theorem cbX1_isFull : o_CB mX1_isFull 0 := ⟨w_4_24, w_1_4, ⟨by decide, by decide, by decide +kernel⟩, rfl, Nat.le_of_ble_eq_true rfl⟩
theorem cbX1_tell : o_CB mX1_tell 2 := ⟨w_4_156, w_1_4, ⟨by decide, by decide, by decide +kernel⟩, rfl, Nat.le_of_ble_eq_true rfl⟩
theorem cbX2_become : o_CB mX2_become 2 := ⟨w_6_77, w_1_9, ⟨by decide, by decide, by decide +kernel⟩, rfl, Nat.le_of_ble_eq_true rfl⟩
theorem cbX2_behindEnd : o_CB mX2_behindEnd 2 := ⟨w_6_61, w_1_9, ⟨by decide, by decide, by decide +kernel⟩, rfl, Nat.le_of_ble_eq_true rfl⟩
theorem cbX2_behindStep : o_CB mX2_behindStep 3 := ⟨w_6_65, w_1_9, ⟨by decide, by decide, by decide +kernel⟩, rfl, Nat.le_of_ble_eq_true rfl⟩
theorem cbX2_drawSixteenths : o_CB mX2_drawSixteenths 0 := ⟨w_6_81, w_1_9, ⟨by decide, by decide, by decide +kernel⟩, rfl, Nat.le_of_ble_eq_true rfl⟩
theorem cbX2_hasStruck : o_CB mX2_hasStruck 2 := ⟨w_6_88, w_1_9, ⟨by decide, by decide, by decide +kernel⟩, rfl, Nat.le_of_ble_eq_true rfl⟩
theorem cbX2_holds : o_CB mX2_holds 3 := ⟨w_6_85, w_1_9, ⟨by decide, by decide, by decide +kernel⟩, rfl, Nat.le_of_ble_eq_true rfl⟩
theorem cbX2_postOne : o_CB mX2_postOne 4 := ⟨w_6_71, w_1_9, ⟨by decide, by decide, by decide +kernel⟩, rfl, Nat.le_of_ble_eq_true rfl⟩
theorem cbX2_run : o_CB mX2_run 3 := ⟨w_6_56, w_1_9, ⟨by decide, by decide, by decide +kernel⟩, rfl, Nat.le_of_ble_eq_true rfl⟩
theorem cbX3_add : o_CB mX3_add 4 := ⟨w_4_69, w_1_5, ⟨by decide, by decide, by decide +kernel⟩, rfl, Nat.le_of_ble_eq_true rfl⟩
theorem cbX3_clear : o_CB mX3_clear 0 := ⟨w_4_46, w_1_5, ⟨by decide, by decide, by decide +kernel⟩, rfl, Nat.le_of_ble_eq_true rfl⟩
theorem cbX3_copyFrom : o_CB mX3_copyFrom 1 := ⟨w_4_100, w_1_5, ⟨by decide, by decide, by decide +kernel⟩, rfl, Nat.le_of_ble_eq_true rfl⟩
theorem cbX4_append : o_CB mX4_append 1 := ⟨w_3_91, w_1_6, ⟨by decide, by decide, by decide +kernel⟩, rfl, Nat.le_of_ble_eq_true rfl⟩
theorem cbX4_begin : o_CB mX4_begin 1 := ⟨w_3_103, w_1_6, ⟨by decide, by decide, by decide +kernel⟩, rfl, Nat.le_of_ble_eq_true rfl⟩
theorem cbX4_fail : o_CB mX4_fail 1 := ⟨w_3_187, w_1_6, ⟨by decide, by decide, by decide +kernel⟩, rfl, Nat.le_of_ble_eq_true rfl⟩
theorem cbX4_hasSpace : o_CB mX4_hasSpace 0 := ⟨w_3_87, w_1_6, ⟨by decide, by decide, by decide +kernel⟩, rfl, Nat.le_of_ble_eq_true rfl⟩
theorem cbX4_isName : o_CB mX4_isName 0 := ⟨w_3_196, w_1_6, ⟨by decide, by decide, by decide +kernel⟩, rfl, Nat.le_of_ble_eq_true rfl⟩
theorem cbX4_isSign : o_CB mX4_isSign 1 := ⟨w_3_172, w_1_6, ⟨by decide, by decide, by decide +kernel⟩, rfl, Nat.le_of_ble_eq_true rfl⟩
theorem cbX4_next : o_CB mX4_next 0 := ⟨w_3_110, w_1_6, ⟨by decide, by decide, by decide +kernel⟩, rfl, Nat.le_of_ble_eq_true rfl⟩
theorem cbX4_readNumber : o_CB mX4_readNumber 0 := ⟨w_3_169, w_1_6, ⟨by decide, by decide, by decide +kernel⟩, rfl, Nat.le_of_ble_eq_true rfl⟩
theorem cbX4_readWord : o_CB mX4_readWord 0 := ⟨w_3_114, w_1_6, ⟨by decide, by decide, by decide +kernel⟩, rfl, Nat.le_of_ble_eq_true rfl⟩
theorem cbX4_wantClose : o_CB mX4_wantClose 0 := ⟨w_3_218, w_1_6, ⟨by decide, by decide, by decide +kernel⟩, rfl, Nat.le_of_ble_eq_true rfl⟩
theorem cbX4_wantKnown : o_CB mX4_wantKnown 3 := ⟨w_3_234, w_1_6, ⟨by decide, by decide, by decide +kernel⟩, rfl, Nat.le_of_ble_eq_true rfl⟩
theorem cbX4_wantNumber : o_CB mX4_wantNumber 2 := ⟨w_3_213, w_1_6, ⟨by decide, by decide, by decide +kernel⟩, rfl, Nat.le_of_ble_eq_true rfl⟩
theorem cbX4_wantWord : o_CB mX4_wantWord 1 := ⟨w_3_230, w_1_6, ⟨by decide, by decide, by decide +kernel⟩, rfl, Nat.le_of_ble_eq_true rfl⟩
theorem cbX5_bestSplit : o_CB mX5_bestSplit 0 := ⟨w_5_232, w_1_11, ⟨by decide, by decide, by decide +kernel⟩, rfl, Nat.le_of_ble_eq_true rfl⟩
theorem cbX5_isWhole : o_CB mX5_isWhole 3 := ⟨w_5_180, w_1_11, ⟨by decide, by decide, by decide +kernel⟩, rfl, Nat.le_of_ble_eq_true rfl⟩
theorem cbX5_spell : o_CB mX5_spell 3 := ⟨w_5_192, w_1_11, ⟨by decide, by decide, by decide +kernel⟩, rfl, Nat.le_of_ble_eq_true rfl⟩
theorem cbX5_spellOne : o_CB mX5_spellOne 3 := ⟨w_5_196, w_1_11, ⟨by decide, by decide, by decide +kernel⟩, rfl, Nat.le_of_ble_eq_true rfl⟩
theorem cbX5_splitBy : o_CB mX5_splitBy 3 := ⟨w_5_216, w_1_11, ⟨by decide, by decide, by decide +kernel⟩, rfl, Nat.le_of_ble_eq_true rfl⟩
theorem cbX5_splits : o_CB mX5_splits 0 := ⟨w_5_224, w_1_11, ⟨by decide, by decide, by decide +kernel⟩, rfl, Nat.le_of_ble_eq_true rfl⟩
theorem cbX5_waysAlong : o_CB mX5_waysAlong 3 := ⟨w_5_171, w_1_11, ⟨by decide, by decide, by decide +kernel⟩, rfl, Nat.le_of_ble_eq_true rfl⟩
theorem cbX6_coupleBehind : o_CB mX6_coupleBehind 2 := ⟨w_5_142, w_1_10, ⟨by decide, by decide, by decide +kernel⟩, rfl, Nat.le_of_ble_eq_true rfl⟩
theorem cbX6_findWays : o_CB mX6_findWays 4 := ⟨w_5_113, w_1_10, ⟨by decide, by decide, by decide +kernel⟩, rfl, Nat.le_of_ble_eq_true rfl⟩
theorem cbX6_firstOnWay : o_CB mX6_firstOnWay 4 := ⟨w_5_130, w_1_10, ⟨by decide, by decide, by decide +kernel⟩, rfl, Nat.le_of_ble_eq_true rfl⟩
theorem cbX6_follow : o_CB mX6_follow 3 := ⟨w_5_138, w_1_10, ⟨by decide, by decide, by decide +kernel⟩, rfl, Nat.le_of_ble_eq_true rfl⟩
theorem cbX6_nextOnWay : o_CB mX6_nextOnWay 4 := ⟨w_5_122, w_1_10, ⟨by decide, by decide, by decide +kernel⟩, rfl, Nat.le_of_ble_eq_true rfl⟩
theorem cbX6_struckBetween : o_CB mX6_struckBetween 4 := ⟨w_5_117, w_1_10, ⟨by decide, by decide, by decide +kernel⟩, rfl, Nat.le_of_ble_eq_true rfl⟩
theorem cbX7_cut : o_CB mX7_cut 1 := ⟨w_3_64, w_1_2, ⟨by decide, by decide, by decide +kernel⟩, rfl, Nat.le_of_ble_eq_true rfl⟩
theorem cbX7_make : o_CB mX7_make 2 := ⟨w_3_45, w_1_2, ⟨by decide, by decide, by decide +kernel⟩, rfl, Nat.le_of_ble_eq_true rfl⟩
theorem cbX7_put : o_CB mX7_put 2 := ⟨w_3_60, w_1_2, ⟨by decide, by decide, by decide +kernel⟩, rfl, Nat.le_of_ble_eq_true rfl⟩
theorem cbX8_answer : o_CB mX8_answer 2 := ⟨w_4_227, w_1_3, ⟨by decide, by decide, by decide +kernel⟩, rfl, Nat.le_of_ble_eq_true rfl⟩
theorem cbX8_answerAll : o_CB mX8_answerAll 0 := ⟨w_4_223, w_1_3, ⟨by decide, by decide, by decide +kernel⟩, rfl, Nat.le_of_ble_eq_true rfl⟩
theorem cbX8_bringTo : o_CB mX8_bringTo 1 := ⟨w_4_198, w_1_3, ⟨by decide, by decide, by decide +kernel⟩, rfl, Nat.le_of_ble_eq_true rfl⟩
theorem cbX8_clear : o_CB mX8_clear 0 := ⟨w_3_176, w_1_3, ⟨by decide, by decide, by decide +kernel⟩, rfl, Nat.le_of_ble_eq_true rfl⟩
theorem cbX8_copyFrom : o_CB mX8_copyFrom 1 := ⟨w_4_36, w_1_3, ⟨by decide, by decide, by decide +kernel⟩, rfl, Nat.le_of_ble_eq_true rfl⟩
theorem cbX8_count : o_CB mX8_count 1 := ⟨w_4_219, w_1_3, ⟨by decide, by decide, by decide +kernel⟩, rfl, Nat.le_of_ble_eq_true rfl⟩
theorem cbX8_firstFit : o_CB mX8_firstFit 4 := ⟨w_4_202, w_1_3, ⟨by decide, by decide, by decide +kernel⟩, rfl, Nat.le_of_ble_eq_true rfl⟩
theorem cbX8_fits : o_CB mX8_fits 5 := ⟨w_4_206, w_1_3, ⟨by decide, by decide, by decide +kernel⟩, rfl, Nat.le_of_ble_eq_true rfl⟩
theorem cbX8_goDays : o_CB mX8_goDays 1 := ⟨w_4_194, w_1_3, ⟨by decide, by decide, by decide +kernel⟩, rfl, Nat.le_of_ble_eq_true rfl⟩
theorem cbX8_hasDays : o_CB mX8_hasDays 1 := ⟨w_4_190, w_1_3, ⟨by decide, by decide, by decide +kernel⟩, rfl, Nat.le_of_ble_eq_true rfl⟩
theorem cbX8_heaviest : o_CB mX8_heaviest 4 := ⟨w_5_89, w_1_3, ⟨by decide, by decide, by decide +kernel⟩, rfl, Nat.le_of_ble_eq_true rfl⟩
theorem cbX8_isCouple : o_CB mX8_isCouple 2 := ⟨w_4_146, w_1_3, ⟨by decide, by decide, by decide +kernel⟩, rfl, Nat.le_of_ble_eq_true rfl⟩
theorem cbX8_isHand : o_CB mX8_isHand 1 := ⟨w_4_179, w_1_3, ⟨by decide, by decide, by decide +kernel⟩, rfl, Nat.le_of_ble_eq_true rfl⟩
theorem cbX8_isLetter : o_CB mX8_isLetter 4 := ⟨w_4_173, w_1_3, ⟨by decide, by decide, by decide +kernel⟩, rfl, Nat.le_of_ble_eq_true rfl⟩
theorem cbX8_isPerson : o_CB mX8_isPerson 1 := ⟨w_4_129, w_1_3, ⟨by decide, by decide, by decide +kernel⟩, rfl, Nat.le_of_ble_eq_true rfl⟩
theorem cbX8_isStrike : o_CB mX8_isStrike 1 := ⟨w_4_121, w_1_3, ⟨by decide, by decide, by decide +kernel⟩, rfl, Nat.le_of_ble_eq_true rfl⟩
theorem cbX8_isTaken : o_CB mX8_isTaken 1 := ⟨w_3_200, w_1_3, ⟨by decide, by decide, by decide +kernel⟩, rfl, Nat.le_of_ble_eq_true rfl⟩
theorem cbX8_lastFit : o_CB mX8_lastFit 4 := ⟨w_6_20, w_1_3, ⟨by decide, by decide, by decide +kernel⟩, rfl, Nat.le_of_ble_eq_true rfl⟩
theorem cbX8_lawsFirstBetween : o_CB mX8_lawsFirstBetween 2 := ⟨w_5_101, w_1_3, ⟨by decide, by decide, by decide +kernel⟩, rfl, Nat.le_of_ble_eq_true rfl⟩
theorem cbX8_lightest : o_CB mX8_lightest 5 := ⟨w_5_76, w_1_3, ⟨by decide, by decide, by decide +kernel⟩, rfl, Nat.le_of_ble_eq_true rfl⟩
theorem cbX8_manyOf : o_CB mX8_manyOf 1 := ⟨w_3_208, w_1_3, ⟨by decide, by decide, by decide +kernel⟩, rfl, Nat.le_of_ble_eq_true rfl⟩
theorem cbX8_numberOf : o_CB mX8_numberOf 2 := ⟨w_3_204, w_1_3, ⟨by decide, by decide, by decide +kernel⟩, rfl, Nat.le_of_ble_eq_true rfl⟩
theorem cbX8_setActs : o_CB mX8_setActs 4 := ⟨w_4_16, w_1_3, ⟨by decide, by decide, by decide +kernel⟩, rfl, Nat.le_of_ble_eq_true rfl⟩
theorem cbX8_soberStrike : o_CB mX8_soberStrike 4 := ⟨w_5_44, w_1_3, ⟨by decide, by decide, by decide +kernel⟩, rfl, Nat.le_of_ble_eq_true rfl⟩
theorem cbX8_strikeBehind : o_CB mX8_strikeBehind 1 := ⟨w_4_214, w_1_3, ⟨by decide, by decide, by decide +kernel⟩, rfl, Nat.le_of_ble_eq_true rfl⟩
theorem cbX8_strikeBy : o_CB mX8_strikeBy 1 := ⟨w_4_210, w_1_3, ⟨by decide, by decide, by decide +kernel⟩, rfl, Nat.le_of_ble_eq_true rfl⟩
theorem cbX8_swapLaws : o_CB mX8_swapLaws 2 := ⟨w_5_26, w_1_3, ⟨by decide, by decide, by decide +kernel⟩, rfl, Nat.le_of_ble_eq_true rfl⟩
theorem cbX8_worthBy : o_CB mX8_worthBy 1 := ⟨w_6_16, w_1_3, ⟨by decide, by decide, by decide +kernel⟩, rfl, Nat.le_of_ble_eq_true rfl⟩
theorem cbX8_worthOfAll : o_CB mX8_worthOfAll 0 := ⟨w_4_113, w_1_3, ⟨by decide, by decide, by decide +kernel⟩, rfl, Nat.le_of_ble_eq_true rfl⟩
theorem cbX9_accept : o_CB mX9_accept 1 := ⟨w_3_99, w_1_7, ⟨by decide, by decide, by decide +kernel⟩, rfl, Nat.le_of_ble_eq_true rfl⟩
theorem cbX9_lawName : o_CB mX9_lawName 3 := ⟨w_4_8, w_1_7, ⟨by decide, by decide, by decide +kernel⟩, rfl, Nat.le_of_ble_eq_true rfl⟩
theorem cbX9_lawNumber : o_CB mX9_lawNumber 3 := ⟨w_4_4, w_1_7, ⟨by decide, by decide, by decide +kernel⟩, rfl, Nat.le_of_ble_eq_true rfl⟩
theorem cbX9_takeActs : o_CB mX9_takeActs 0 := ⟨w_4_12, w_1_7, ⟨by decide, by decide, by decide +kernel⟩, rfl, Nat.le_of_ble_eq_true rfl⟩
theorem cbX9_takeHand : o_CB mX9_takeHand 0 := ⟨w_3_222, w_1_7, ⟨by decide, by decide, by decide +kernel⟩, rfl, Nat.le_of_ble_eq_true rfl⟩
theorem cbX9_takeLaw : o_CB mX9_takeLaw 0 := ⟨w_4_0, w_1_7, ⟨by decide, by decide, by decide +kernel⟩, rfl, Nat.le_of_ble_eq_true rfl⟩
theorem cbX9_takeLetter : o_CB mX9_takeLetter 0 := ⟨w_4_20, w_1_7, ⟨by decide, by decide, by decide +kernel⟩, rfl, Nat.le_of_ble_eq_true rfl⟩
theorem cbX9_takeOdds : o_CB mX9_takeOdds 0 := ⟨w_4_32, w_1_7, ⟨by decide, by decide, by decide +kernel⟩, rfl, Nat.le_of_ble_eq_true rfl⟩
theorem cbX9_takePerson : o_CB mX9_takePerson 0 := ⟨w_3_226, w_1_7, ⟨by decide, by decide, by decide +kernel⟩, rfl, Nat.le_of_ble_eq_true rfl⟩
theorem cbX9_takeStrike : o_CB mX9_takeStrike 0 := ⟨w_3_183, w_1_7, ⟨by decide, by decide, by decide +kernel⟩, rfl, Nat.le_of_ble_eq_true rfl⟩
theorem cbX9_wantNew : o_CB mX9_wantNew 1 := ⟨w_3_192, w_1_7, ⟨by decide, by decide, by decide +kernel⟩, rfl, Nat.le_of_ble_eq_true rfl⟩
theorem clX11_112 : o_CS "OddCancel" 112 mX11_isTray 1 := ⟨cbX11_isTray, w_3_30, w_3_31⟩
theorem clX11_118 : o_CS "OddCancel" 118 mX11_within 3 := ⟨cbX11_within, w_3_34, w_3_35⟩
theorem clX11_124 : o_CV "OddCancel" 124 11 mX11_ends 1 := ⟨cbX11_ends, w_3_38, w_3_40, (o_tb_of (List.mem_of_getElem? (i := 0) rfl) rfl), TX11, _, rfl⟩
theorem clX11_127 : o_CV "OddCancel" 127 7 mX7_make 2 := ⟨cbX7_make, w_3_42, w_3_43, w_3_44, TX7, _, rfl⟩
theorem clX11_131 : o_CV "OddCancel" 131 11 mX11_placeStatus 2 := ⟨cbX11_placeStatus, w_3_53, w_3_55, (o_tb_of (List.mem_of_getElem? (i := 1) rfl) rfl), TX11, _, rfl⟩
theorem clX11_135 : o_CV "OddCancel" 135 7 mX7_put 2 := ⟨cbX7_put, w_3_57, w_3_58, w_3_59, TX7, _, rfl⟩
theorem clX11_139 : o_CV "OddCancel" 139 11 mX11_refuses 1 := ⟨cbX11_refuses, w_3_69, w_3_71, (o_tb_of (List.mem_of_getElem? (i := 3) rfl) rfl), TX11, _, rfl⟩
theorem clX11_163 : o_CV "OddCancel" 163 4 mX4_hasSpace 0 := ⟨cbX4_hasSpace, w_3_84, w_3_85, w_3_86, TX4, _, rfl⟩
theorem clX11_167 : o_CV "OddCancel" 167 4 mX4_append 1 := ⟨cbX4_append, w_3_88, w_3_89, w_3_90, TX4, _, rfl⟩
theorem clX11_174 : o_CV "OddCancel" 174 9 mX9_accept 1 := ⟨cbX9_accept, w_3_96, w_3_97, w_3_98, TX9, _, rfl⟩
theorem clX11_177 : o_CV "OddCancel" 177 8 mX8_copyFrom 1 := ⟨cbX8_copyFrom, w_4_33, w_4_34, w_4_35, TX8, _, rfl⟩
theorem clX11_181 : o_CV "OddCancel" 181 3 mX3_clear 0 := ⟨cbX3_clear, w_4_43, w_4_44, w_4_45, TX3, _, rfl⟩
theorem clX11_187 : o_CV "OddCancel" 187 11 mX11_gives 1 := ⟨cbX11_gives, w_4_47, w_4_49, (o_tb_of (List.mem_of_getElem? (i := 16) rfl) rfl), TX11, _, rfl⟩
theorem clX11_190 : o_CV "OddCancel" 190 10 mX10_accept 1 := ⟨cbX10_accept, w_4_55, w_4_56, w_4_57, TX10, _, rfl⟩
theorem clX11_191 : o_CV "OddCancel" 191 3 mX3_copyFrom 1 := ⟨cbX3_copyFrom, w_4_97, w_4_98, w_4_99, TX3, _, rfl⟩
theorem clX11_237 : o_CV "OddCancel" 237 8 mX8_worthOfAll 0 := ⟨cbX8_worthOfAll, w_4_110, w_4_111, w_4_112, TX8, _, rfl⟩
theorem clX11_241 : o_CV "OddCancel" 241 8 mX8_isStrike 1 := ⟨cbX8_isStrike, w_4_118, w_4_119, w_4_120, TX8, _, rfl⟩
theorem clX11_248 : o_CV "OddCancel" 248 8 mX8_isPerson 1 := ⟨cbX8_isPerson, w_4_126, w_4_127, w_4_128, TX8, _, rfl⟩
theorem clX11_259 : o_CV "OddCancel" 259 11 mX11_givesIfAny 1 := ⟨cbX11_givesIfAny, w_4_135, w_4_137, (o_tb_of (List.mem_of_getElem? (i := 23) rfl) rfl), TX11, _, rfl⟩
theorem clX11_262 : o_CV "OddCancel" 262 8 mX8_isCouple 2 := ⟨cbX8_isCouple, w_4_143, w_4_144, w_4_145, TX8, _, rfl⟩
theorem clX11_272 : o_CV "OddCancel" 272 1 mX1_tell 2 := ⟨cbX1_tell, w_4_153, w_4_154, w_4_155, TX1, _, rfl⟩
theorem clX11_280 : o_CV "OddCancel" 280 8 mX8_isLetter 4 := ⟨cbX8_isLetter, w_4_170, w_4_171, w_4_172, TX8, _, rfl⟩
theorem clX11_284 : o_CV "OddCancel" 284 1 mX1_isFull 0 := ⟨cbX1_isFull, w_4_180, w_4_22, w_4_23, TX1, _, rfl⟩
theorem clX11_287 : o_CV "OddCancel" 287 1 mX1_add 5 := ⟨cbX1_add, w_4_181, w_4_26, w_4_27, TX1, _, rfl⟩
theorem clX11_293 : o_CV "OddCancel" 293 8 mX8_hasDays 1 := ⟨cbX8_hasDays, w_4_187, w_4_188, w_4_189, TX8, _, rfl⟩
theorem clX11_296 : o_CV "OddCancel" 296 8 mX8_goDays 1 := ⟨cbX8_goDays, w_4_191, w_4_192, w_4_193, TX8, _, rfl⟩
theorem clX11_299 : o_CV "OddCancel" 299 1 mX1_dropAt 1 := ⟨cbX1_dropAt, w_4_236, w_4_237, w_4_238, TX1, _, rfl⟩
theorem clX11_307 : o_CV "OddCancel" 307 8 mX8_isHand 1 := ⟨cbX8_isHand, w_5_9, w_4_177, w_4_178, TX8, _, rfl⟩
theorem clX11_310 : o_CV "OddCancel" 310 8 mX8_setActs 4 := ⟨cbX8_setActs, w_5_14, w_4_14, w_4_15, TX8, _, rfl⟩
theorem clX11_314 : o_CV "OddCancel" 314 8 mX8_swapLaws 2 := ⟨cbX8_swapLaws, w_5_23, w_5_24, w_5_25, TX8, _, rfl⟩
theorem clX11_319 : o_CV "OddCancel" 319 8 mX8_firstFit 4 := ⟨cbX8_firstFit, w_5_36, w_4_200, w_4_201, TX8, _, rfl⟩
theorem clX11_323 : o_CV "OddCancel" 323 8 mX8_soberStrike 4 := ⟨cbX8_soberStrike, w_5_41, w_5_42, w_5_43, TX8, _, rfl⟩
theorem clX11_326 : o_CV "OddCancel" 326 8 mX8_strikeBehind 1 := ⟨cbX8_strikeBehind, w_5_49, w_4_212, w_4_213, TX8, _, rfl⟩
theorem clX11_329 : o_CV "OddCancel" 329 8 mX8_fits 5 := ⟨cbX8_fits, w_5_54, w_4_204, w_4_205, TX8, _, rfl⟩
theorem clX11_333 : o_CV "OddCancel" 333 11 mX11_setFraction 2 := ⟨cbX11_setFraction, w_5_59, w_5_61, (o_tb_of (List.mem_of_getElem? (i := 28) rfl) rfl), TX11, _, rfl⟩
theorem clX11_337 : o_CV "OddCancel" 337 8 mX8_lightest 5 := ⟨cbX8_lightest, w_5_73, w_5_74, w_5_75, TX8, _, rfl⟩
theorem clX11_341 : o_CV "OddCancel" 341 8 mX8_heaviest 4 := ⟨cbX8_heaviest, w_5_86, w_5_87, w_5_88, TX8, _, rfl⟩
theorem clX11_344 : o_CV "OddCancel" 344 8 mX8_lawsFirstBetween 2 := ⟨cbX8_lawsFirstBetween, w_5_98, w_5_99, w_5_100, TX8, _, rfl⟩
theorem clX11_347 : o_CV "OddCancel" 347 11 mX11_isWay 4 := ⟨cbX11_isWay, w_5_106, w_5_108, (o_tb_of (List.mem_of_getElem? (i := 29) rfl) rfl), TX11, _, rfl⟩
theorem clX11_350 : o_CV "OddCancel" 350 6 mX6_findWays 4 := ⟨cbX6_findWays, w_5_110, w_5_111, w_5_112, TX6, _, rfl⟩
theorem clX11_357 : o_CV "OddCancel" 357 6 mX6_firstOnWay 4 := ⟨cbX6_firstOnWay, w_5_127, w_5_128, w_5_129, TX6, _, rfl⟩
theorem clX11_361 : o_CV "OddCancel" 361 6 mX6_follow 3 := ⟨cbX6_follow, w_5_135, w_5_136, w_5_137, TX6, _, rfl⟩
theorem clX11_374 : o_CV "OddCancel" 374 11 mX11_strikeRowStatus 2 := ⟨cbX11_strikeRowStatus, w_5_159, w_5_161, (o_tb_of (List.mem_of_getElem? (i := 32) rfl) rfl), TX11, _, rfl⟩
theorem clX11_377 : o_CV "OddCancel" 377 5 mX5_waysAlong 3 := ⟨cbX5_waysAlong, w_5_168, w_5_169, w_5_170, TX5, _, rfl⟩
theorem clX11_381 : o_CV "OddCancel" 381 5 mX5_isWhole 3 := ⟨cbX5_isWhole, w_5_177, w_5_178, w_5_179, TX5, _, rfl⟩
theorem clX11_385 : o_CV "OddCancel" 385 11 mX11_rowStatus 2 := ⟨cbX11_rowStatus, w_5_164, w_5_166, (o_tb_of (List.mem_of_getElem? (i := 33) rfl) rfl), TX11, _, rfl⟩
theorem clX11_391 : o_CV "OddCancel" 391 5 mX5_spell 3 := ⟨cbX5_spell, w_5_189, w_5_190, w_5_191, TX5, _, rfl⟩
theorem clX11_400 : o_CV "OddCancel" 400 11 mX11_splitStatus 4 := ⟨cbX11_splitStatus, w_5_208, w_5_210, (o_tb_of (List.mem_of_getElem? (i := 35) rfl) rfl), TX11, _, rfl⟩
theorem clX11_403 : o_CV "OddCancel" 403 5 mX5_splitBy 3 := ⟨cbX5_splitBy, w_5_213, w_5_214, w_5_215, TX5, _, rfl⟩
theorem clX11_407 : o_CV "OddCancel" 407 5 mX5_splits 0 := ⟨cbX5_splits, w_5_221, w_5_222, w_5_223, TX5, _, rfl⟩
theorem clX11_410 : o_CV "OddCancel" 410 5 mX5_bestSplit 0 := ⟨cbX5_bestSplit, w_5_229, w_5_230, w_5_231, TX5, _, rfl⟩
theorem clX11_422 : o_CS "OddCancel" 422 mJ6_bitCount_0f7a4 1 := ⟨cbJ6_bitCount_0f7a4, w_5_238, w_5_239⟩
theorem clX11_427 : o_CV "OddCancel" 427 0 mX0_sit 1 := ⟨cbX0_sit, w_6_8, w_6_9, w_6_10, TX0, _, rfl⟩
theorem clX11_430 : o_CV "OddCancel" 430 0 mX0_outcome 1 := ⟨cbX0_outcome, w_6_21, w_6_22, w_6_23, TX0, _, rfl⟩
theorem clX11_433 : o_CV "OddCancel" 433 0 mX0_firstTaken 1 := ⟨cbX0_firstTaken, w_6_37, w_6_38, w_6_39, TX0, _, rfl⟩
theorem clX11_436 : o_CV "OddCancel" 436 8 mX8_lastFit 4 := ⟨cbX8_lastFit, w_6_46, w_6_18, w_6_19, TX8, _, rfl⟩
theorem clX11_439 : o_CV "OddCancel" 439 8 mX8_strikeBy 1 := ⟨cbX8_strikeBy, w_6_47, w_4_208, w_4_209, TX8, _, rfl⟩
theorem clX11_445 : o_CV "OddCancel" 445 2 mX2_run 3 := ⟨cbX2_run, w_6_53, w_6_54, w_6_55, TX2, _, rfl⟩
theorem clX11_467 : o_CS "OddCancel" 467 mX11_commonDivisor 2 := ⟨cbX11_commonDivisor, w_5_63, w_5_64⟩
theorem clX0_43 : o_CV "OddCancel$Brothers" 43 8 mX8_firstFit 4 := ⟨cbX8_firstFit, w_6_12, w_4_200, w_4_201, TX8, _, rfl⟩
theorem clX0_47 : o_CV "OddCancel$Brothers" 47 8 mX8_worthBy 1 := ⟨cbX8_worthBy, w_6_13, w_6_14, w_6_15, TX8, _, rfl⟩
theorem clX0_51 : o_CV "OddCancel$Brothers" 51 8 mX8_lastFit 4 := ⟨cbX8_lastFit, w_6_17, w_6_18, w_6_19, TX8, _, rfl⟩
theorem clX0_54 : o_CV "OddCancel$Brothers" 54 0 mX0_best 3 := ⟨cbX0_best, w_6_25, w_6_27, (o_tb_of (List.mem_of_getElem? (i := 36) rfl) rfl), TX0, _, rfl⟩
theorem clX0_58 : o_CV "OddCancel$Brothers" 58 0 mX0_outcome 1 := ⟨cbX0_outcome, w_6_41, w_6_22, w_6_23, TX0, _, rfl⟩
theorem clX0_61 : o_CV "OddCancel$Brothers" 61 0 mX0_takenThen 4 := ⟨cbX0_takenThen, w_6_29, w_6_31, (o_tb_of (List.mem_of_getElem? (i := 37) rfl) rfl), TX0, _, rfl⟩
theorem clX2_46 : o_CV "OddCancel$Life" 46 2 mX2_behindEnd 2 := ⟨cbX2_behindEnd, w_6_58, w_6_60, (o_tb_of (List.mem_of_getElem? (i := 38) rfl) rfl), TX2, _, rfl⟩
theorem clX2_50 : o_CV "OddCancel$Life" 50 2 mX2_behindStep 3 := ⟨cbX2_behindStep, w_6_62, w_6_64, (o_tb_of (List.mem_of_getElem? (i := 39) rfl) rfl), TX2, _, rfl⟩
theorem clX2_60 : o_CV "OddCancel$Life" 60 8 mX8_hasDays 1 := ⟨cbX8_hasDays, w_6_66, w_4_188, w_4_189, TX8, _, rfl⟩
theorem clX2_66 : o_CV "OddCancel$Life" 66 8 mX8_goDays 1 := ⟨cbX8_goDays, w_6_67, w_4_192, w_4_193, TX8, _, rfl⟩
theorem clX2_73 : o_CV "OddCancel$Life" 73 2 mX2_postOne 4 := ⟨cbX2_postOne, w_6_68, w_6_70, (o_tb_of (List.mem_of_getElem? (i := 40) rfl) rfl), TX2, _, rfl⟩
theorem clX2_77 : o_CV "OddCancel$Life" 77 2 mX2_become 2 := ⟨cbX2_become, w_6_74, w_6_76, (o_tb_of (List.mem_of_getElem? (i := 41) rfl) rfl), TX2, _, rfl⟩
theorem clX2_81 : o_CV "OddCancel$Life" 81 2 mX2_drawSixteenths 0 := ⟨cbX2_drawSixteenths, w_6_78, w_6_80, (o_tb_of (List.mem_of_getElem? (i := 42) rfl) rfl), TX2, _, rfl⟩
theorem clX2_92 : o_CS "OddCancel$Life" 92 mX2_holds 3 := ⟨cbX2_holds, w_6_83, w_6_84⟩
theorem clX2_100 : o_CV "OddCancel$Life" 100 1 mX1_isFull 0 := ⟨cbX1_isFull, w_6_72, w_4_22, w_4_23, TX1, _, rfl⟩
theorem clX2_109 : o_CV "OddCancel$Life" 109 1 mX1_add 5 := ⟨cbX1_add, w_6_73, w_4_26, w_4_27, TX1, _, rfl⟩
theorem clX2_116 : o_CS "OddCancel$Life" 116 mX2_hasStruck 2 := ⟨cbX2_hasStruck, w_6_86, w_6_87⟩
theorem clX4_37 : o_CV "OddCancel$Reader" 37 4 mX4_next 0 := ⟨cbX4_next, w_3_107, w_3_108, w_3_109, TX4, _, rfl⟩
theorem clX4_49 : o_CV "OddCancel$Reader" 49 4 mX4_readWord 0 := ⟨cbX4_readWord, w_3_111, w_3_113, (o_tb_of (List.mem_of_getElem? (i := 4) rfl) rfl), TX4, _, rfl⟩
theorem clX4_52 : o_CV "OddCancel$Reader" 52 4 mX4_readNumber 0 := ⟨cbX4_readNumber, w_3_166, w_3_168, (o_tb_of (List.mem_of_getElem? (i := 5) rfl) rfl), TX4, _, rfl⟩
theorem clX4_55 : o_CS "OddCancel$Reader" 55 mX4_isSign 1 := ⟨cbX4_isSign, w_3_170, w_3_171⟩
theorem clX4_84 : o_CV "OddCancel$Reader" 84 4 mX4_fail 1 := ⟨cbX4_fail, w_3_214, w_3_185, w_3_186, TX4, _, rfl⟩
theorem clX4_87 : o_CV "OddCancel$Reader" 87 4 mX4_isName 0 := ⟨cbX4_isName, w_3_235, w_3_194, w_3_195, TX4, _, rfl⟩
theorem clX4_91 : o_CV "OddCancel$Reader" 91 8 mX8_numberOf 2 := ⟨cbX8_numberOf, w_3_236, w_3_202, w_3_203, TX8, _, rfl⟩
theorem clX5_41 : o_CV "OddCancel$Rows" 41 5 mX5_spellOne 3 := ⟨cbX5_spellOne, w_5_193, w_5_195, (o_tb_of (List.mem_of_getElem? (i := 34) rfl) rfl), TX5, _, rfl⟩
theorem clX5_53 : o_CV "OddCancel$Rows" 53 8 mX8_lightest 5 := ⟨cbX8_lightest, w_5_197, w_5_74, w_5_75, TX8, _, rfl⟩
theorem clX5_57 : o_CV "OddCancel$Rows" 57 1 mX1_add 5 := ⟨cbX1_add, w_5_198, w_4_26, w_4_27, TX1, _, rfl⟩
theorem clX5_76 : o_CV "OddCancel$Rows" 76 5 mX5_splits 0 := ⟨cbX5_splits, w_5_233, w_5_222, w_5_223, TX5, _, rfl⟩
theorem clX6_30 : o_CS "OddCancel$Trails" 30 mX6_struckBetween 4 := ⟨cbX6_struckBetween, w_5_115, w_5_116⟩
theorem clX6_34 : o_CV "OddCancel$Trails" 34 6 mX6_nextOnWay 4 := ⟨cbX6_nextOnWay, w_5_119, w_5_121, (o_tb_of (List.mem_of_getElem? (i := 30) rfl) rfl), TX6, _, rfl⟩
theorem clX6_40 : o_CV "OddCancel$Trails" 40 8 mX8_soberStrike 4 := ⟨cbX8_soberStrike, w_5_118, w_5_42, w_5_43, TX8, _, rfl⟩
theorem clX6_53 : o_CV "OddCancel$Trails" 53 6 mX6_coupleBehind 2 := ⟨cbX6_coupleBehind, w_5_139, w_5_141, (o_tb_of (List.mem_of_getElem? (i := 31) rfl) rfl), TX6, _, rfl⟩
theorem clX7_32 : o_CV "OddCancel$Tray" 32 7 mX7_cut 1 := ⟨cbX7_cut, w_3_61, w_3_63, (o_tb_of (List.mem_of_getElem? (i := 2) rfl) rfl), TX7, _, rfl⟩
theorem clX8_88 : o_CV "OddCancel$Valley" 88 1 mX1_copyFrom 1 := ⟨cbX1_copyFrom, w_4_38, w_4_39, w_4_40, TX1, _, rfl⟩
theorem clX8_92 : o_CV "OddCancel$Valley" 92 8 mX8_isPerson 1 := ⟨cbX8_isPerson, w_4_147, w_4_127, w_4_128, TX8, _, rfl⟩
theorem clX8_96 : o_CV "OddCancel$Valley" 96 8 mX8_isStrike 1 := ⟨cbX8_isStrike, w_4_148, w_4_119, w_4_120, TX8, _, rfl⟩
theorem clX8_106 : o_CV "OddCancel$Valley" 106 8 mX8_isHand 1 := ⟨cbX8_isHand, w_4_176, w_4_177, w_4_178, TX8, _, rfl⟩
theorem clX8_109 : o_CV "OddCancel$Valley" 109 8 mX8_manyOf 1 := ⟨cbX8_manyOf, w_3_205, w_3_206, w_3_207, TX8, _, rfl⟩
theorem clX8_113 : o_CV "OddCancel$Valley" 113 8 mX8_numberOf 2 := ⟨cbX8_numberOf, w_3_201, w_3_202, w_3_203, TX8, _, rfl⟩
theorem clX8_117 : o_CV "OddCancel$Valley" 117 8 mX8_fits 5 := ⟨cbX8_fits, w_4_203, w_4_204, w_4_205, TX8, _, rfl⟩
theorem clX8_121 : o_CV "OddCancel$Valley" 121 8 mX8_firstFit 4 := ⟨cbX8_firstFit, w_4_199, w_4_200, w_4_201, TX8, _, rfl⟩
theorem clX8_125 : o_CV "OddCancel$Valley" 125 8 mX8_strikeBy 1 := ⟨cbX8_strikeBy, w_4_207, w_4_208, w_4_209, TX8, _, rfl⟩
theorem clX8_128 : o_CV "OddCancel$Valley" 128 8 mX8_soberStrike 4 := ⟨cbX8_soberStrike, w_5_77, w_5_42, w_5_43, TX8, _, rfl⟩
theorem clX8_131 : o_CV "OddCancel$Valley" 131 8 mX8_bringTo 1 := ⟨cbX8_bringTo, w_4_195, w_4_197, (o_tb_of (List.mem_of_getElem? (i := 24) rfl) rfl), TX8, _, rfl⟩
theorem clX8_135 : o_CV "OddCancel$Valley" 135 8 mX8_answerAll 0 := ⟨cbX8_answerAll, w_4_220, w_4_222, (o_tb_of (List.mem_of_getElem? (i := 26) rfl) rfl), TX8, _, rfl⟩
theorem clX8_150 : o_CV "OddCancel$Valley" 150 8 mX8_strikeBehind 1 := ⟨cbX8_strikeBehind, w_4_211, w_4_212, w_4_213, TX8, _, rfl⟩
theorem clX8_153 : o_CV "OddCancel$Valley" 153 1 mX1_add 5 := ⟨cbX1_add, w_4_215, w_4_26, w_4_27, TX1, _, rfl⟩
theorem clX8_157 : o_CV "OddCancel$Valley" 157 8 mX8_count 1 := ⟨cbX8_count, w_4_216, w_4_218, (o_tb_of (List.mem_of_getElem? (i := 25) rfl) rfl), TX8, _, rfl⟩
theorem clX8_163 : o_CV "OddCancel$Valley" 163 8 mX8_answer 2 := ⟨cbX8_answer, w_4_224, w_4_226, (o_tb_of (List.mem_of_getElem? (i := 27) rfl) rfl), TX8, _, rfl⟩
theorem clX9_19 : o_CV "OddCancel$ValleyText" 19 4 mX4_begin 1 := ⟨cbX4_begin, w_3_100, w_3_101, w_3_102, TX4, _, rfl⟩
theorem clX9_25 : o_CV "OddCancel$ValleyText" 25 8 mX8_clear 0 := ⟨cbX8_clear, w_3_173, w_3_174, w_3_175, TX8, _, rfl⟩
theorem clX9_41 : o_CV "OddCancel$ValleyText" 41 9 mX9_takeStrike 0 := ⟨cbX9_takeStrike, w_3_180, w_3_182, (o_tb_of (List.mem_of_getElem? (i := 6) rfl) rfl), TX9, _, rfl⟩
theorem clX9_45 : o_CV "OddCancel$ValleyText" 45 9 mX9_takeHand 0 := ⟨cbX9_takeHand, w_3_219, w_3_221, (o_tb_of (List.mem_of_getElem? (i := 8) rfl) rfl), TX9, _, rfl⟩
theorem clX9_48 : o_CV "OddCancel$ValleyText" 48 9 mX9_takePerson 0 := ⟨cbX9_takePerson, w_3_223, w_3_225, (o_tb_of (List.mem_of_getElem? (i := 9) rfl) rfl), TX9, _, rfl⟩
theorem clX9_51 : o_CV "OddCancel$ValleyText" 51 9 mX9_takeLaw 0 := ⟨cbX9_takeLaw, w_3_237, w_3_239, (o_tb_of (List.mem_of_getElem? (i := 10) rfl) rfl), TX9, _, rfl⟩
theorem clX9_54 : o_CV "OddCancel$ValleyText" 54 9 mX9_takeActs 0 := ⟨cbX9_takeActs, w_4_9, w_4_11, (o_tb_of (List.mem_of_getElem? (i := 13) rfl) rfl), TX9, _, rfl⟩
theorem clX9_57 : o_CV "OddCancel$ValleyText" 57 9 mX9_takeLetter 0 := ⟨cbX9_takeLetter, w_4_17, w_4_19, (o_tb_of (List.mem_of_getElem? (i := 14) rfl) rfl), TX9, _, rfl⟩
theorem clX9_60 : o_CV "OddCancel$ValleyText" 60 9 mX9_takeOdds 0 := ⟨cbX9_takeOdds, w_4_29, w_4_31, (o_tb_of (List.mem_of_getElem? (i := 15) rfl) rfl), TX9, _, rfl⟩
theorem clX9_63 : o_CV "OddCancel$ValleyText" 63 4 mX4_fail 1 := ⟨cbX4_fail, w_3_184, w_3_185, w_3_186, TX4, _, rfl⟩
theorem clX9_67 : o_CV "OddCancel$ValleyText" 67 4 mX4_isName 0 := ⟨cbX4_isName, w_3_193, w_3_194, w_3_195, TX4, _, rfl⟩
theorem clX9_74 : o_CV "OddCancel$ValleyText" 74 8 mX8_isTaken 1 := ⟨cbX8_isTaken, w_3_197, w_3_198, w_3_199, TX8, _, rfl⟩
theorem clX9_82 : o_CV "OddCancel$ValleyText" 82 8 mX8_manyOf 1 := ⟨cbX8_manyOf, w_3_209, w_3_206, w_3_207, TX8, _, rfl⟩
theorem clX9_86 : o_CV "OddCancel$ValleyText" 86 4 mX4_next 0 := ⟨cbX4_next, w_3_188, w_3_108, w_3_109, TX4, _, rfl⟩
theorem clX9_92 : o_CV "OddCancel$ValleyText" 92 9 mX9_wantNew 1 := ⟨cbX9_wantNew, w_3_189, w_3_191, (o_tb_of (List.mem_of_getElem? (i := 7) rfl) rfl), TX9, _, rfl⟩
theorem clX9_95 : o_CV "OddCancel$ValleyText" 95 4 mX4_wantNumber 2 := ⟨cbX4_wantNumber, w_3_210, w_3_211, w_3_212, TX4, _, rfl⟩
theorem clX9_103 : o_CV "OddCancel$ValleyText" 103 4 mX4_wantClose 0 := ⟨cbX4_wantClose, w_3_215, w_3_216, w_3_217, TX4, _, rfl⟩
theorem clX9_112 : o_CV "OddCancel$ValleyText" 112 4 mX4_wantWord 1 := ⟨cbX4_wantWord, w_3_227, w_3_228, w_3_229, TX4, _, rfl⟩
theorem clX9_115 : o_CV "OddCancel$ValleyText" 115 4 mX4_wantKnown 3 := ⟨cbX4_wantKnown, w_3_231, w_3_232, w_3_233, TX4, _, rfl⟩
theorem clX9_128 : o_CV "OddCancel$ValleyText" 128 9 mX9_lawNumber 3 := ⟨cbX9_lawNumber, w_4_1, w_4_3, (o_tb_of (List.mem_of_getElem? (i := 11) rfl) rfl), TX9, _, rfl⟩
theorem clX9_132 : o_CV "OddCancel$ValleyText" 132 9 mX9_lawName 3 := ⟨cbX9_lawName, w_4_5, w_4_7, (o_tb_of (List.mem_of_getElem? (i := 12) rfl) rfl), TX9, _, rfl⟩
theorem clX9_135 : o_CV "OddCancel$ValleyText" 135 8 mX8_setActs 4 := ⟨cbX8_setActs, w_4_13, w_4_14, w_4_15, TX8, _, rfl⟩
theorem clX9_143 : o_CV "OddCancel$ValleyText" 143 1 mX1_isFull 0 := ⟨cbX1_isFull, w_4_21, w_4_22, w_4_23, TX1, _, rfl⟩
theorem clX9_148 : o_CV "OddCancel$ValleyText" 148 1 mX1_add 5 := ⟨cbX1_add, w_4_25, w_4_26, w_4_27, TX1, _, rfl⟩
theorem clX10_27 : o_CV "OddCancel$WeeksText" 27 4 mX4_begin 1 := ⟨cbX4_begin, w_4_59, w_3_101, w_3_102, TX4, _, rfl⟩
theorem clX10_33 : o_CV "OddCancel$WeeksText" 33 3 mX3_clear 0 := ⟨cbX3_clear, w_4_60, w_4_44, w_4_45, TX3, _, rfl⟩
theorem clX10_52 : o_CV "OddCancel$WeeksText" 52 10 mX10_takeEnd 0 := ⟨cbX10_takeEnd, w_4_61, w_4_63, (o_tb_of (List.mem_of_getElem? (i := 17) rfl) rfl), TX10, _, rfl⟩
theorem clX10_56 : o_CV "OddCancel$WeeksText" 56 10 mX10_beginStep 1 := ⟨cbX10_beginStep, w_4_72, w_4_74, (o_tb_of (List.mem_of_getElem? (i := 18) rfl) rfl), TX10, _, rfl⟩
theorem clX10_60 : o_CV "OddCancel$WeeksText" 60 10 mX10_takeRest 1 := ⟨cbX10_takeRest, w_4_79, w_4_81, (o_tb_of (List.mem_of_getElem? (i := 19) rfl) rfl), TX10, _, rfl⟩
theorem clX10_63 : o_CV "OddCancel$WeeksText" 63 4 mX4_wantClose 0 := ⟨cbX4_wantClose, w_4_71, w_3_216, w_3_217, TX4, _, rfl⟩
theorem clX10_66 : o_CV "OddCancel$WeeksText" 66 4 mX4_fail 1 := ⟨cbX4_fail, w_4_65, w_3_185, w_3_186, TX4, _, rfl⟩
theorem clX10_75 : o_CV "OddCancel$WeeksText" 75 3 mX3_add 4 := ⟨cbX3_add, w_4_66, w_4_67, w_4_68, TX3, _, rfl⟩
theorem clX10_79 : o_CV "OddCancel$WeeksText" 79 4 mX4_next 0 := ⟨cbX4_next, w_4_70, w_3_108, w_3_109, TX4, _, rfl⟩
theorem clX10_82 : o_CS "OddCancel$WeeksText" 82 mX10_begins 1 := ⟨cbX10_begins, w_4_76, w_4_77⟩
theorem clX10_88 : o_CV "OddCancel$WeeksText" 88 10 mX10_takeNumber 2 := ⟨cbX10_takeNumber, w_4_83, w_4_85, (o_tb_of (List.mem_of_getElem? (i := 20) rfl) rfl), TX10, _, rfl⟩
theorem clX10_92 : o_CV "OddCancel$WeeksText" 92 10 mX10_takePost 0 := ⟨cbX10_takePost, w_4_88, w_4_90, (o_tb_of (List.mem_of_getElem? (i := 21) rfl) rfl), TX10, _, rfl⟩
theorem clX10_95 : o_CV "OddCancel$WeeksText" 95 10 mX10_takeTest 0 := ⟨cbX10_takeTest, w_4_93, w_4_95, (o_tb_of (List.mem_of_getElem? (i := 22) rfl) rfl), TX10, _, rfl⟩
theorem clX10_98 : o_CV "OddCancel$WeeksText" 98 4 mX4_wantNumber 2 := ⟨cbX4_wantNumber, w_4_87, w_3_211, w_3_212, TX4, _, rfl⟩
theorem clX10_102 : o_CV "OddCancel$WeeksText" 102 4 mX4_wantKnown 3 := ⟨cbX4_wantKnown, w_4_92, w_3_232, w_3_233, TX4, _, rfl⟩
theorem clX12_77 : o_CV "OddCancelModel" 77 12 mX12_plain 1 := ⟨cbX12_plain, w_6_112, w_6_114, (o_tb_of (List.mem_of_getElem? (i := 43) rfl) rfl), TX12, _, rfl⟩
theorem clX12_87 : o_CV "OddCancelModel" 87 12 mX12_refuse 1 := ⟨cbX12_refuse, w_7_73, w_7_75, (o_tb_of (List.mem_of_getElem? (i := 50) rfl) rfl), TX12, _, rfl⟩
theorem clX12_91 : o_CV "OddCancelModel" 91 12 mX12_gives 1 := ⟨cbX12_gives, w_7_172, w_7_174, (o_tb_of (List.mem_of_getElem? (i := 74) rfl) rfl), TX12, _, rfl⟩
theorem clX12_94 : o_CV "OddCancelModel" 94 12 mX12_is 1 := ⟨cbX12_is, w_7_13, w_7_15, (o_tb_of (List.mem_of_getElem? (i := 44) rfl) rfl), TX12, _, rfl⟩
theorem clX12_98 : o_CS "OddCancelModel" 98 mX12_isTray 1 := ⟨cbX12_isTray, w_7_10, w_7_11⟩
theorem clX12_101 : o_CV "OddCancelModel" 101 12 mX12_wrongPlace 2 := ⟨cbX12_wrongPlace, w_7_21, w_7_23, (o_tb_of (List.mem_of_getElem? (i := 45) rfl) rfl), TX12, _, rfl⟩
theorem clX12_105 : o_CS "OddCancelModel" 105 mX12_cut 2 := ⟨cbX12_cut, w_7_25, w_7_26⟩
theorem clX12_114 : o_CV "OddCancelModel" 114 12 mX12_four 1 := ⟨cbX12_four, w_7_41, w_7_43, (o_tb_of (List.mem_of_getElem? (i := 46) rfl) rfl), TX12, _, rfl⟩
theorem clX12_123 : o_CV "OddCancelModel" 123 12 mX12_byteAt 1 := ⟨cbX12_byteAt, w_7_61, w_7_63, (o_tb_of (List.mem_of_getElem? (i := 49) rfl) rfl), TX12, _, rfl⟩
theorem clX12_135 : o_CS "OddCancelModel" 135 mX12_isSmall 1 := ⟨cbX12_isSmall, w_7_65, w_7_66⟩
theorem clX12_138 : o_CS "OddCancelModel" 138 mX12_isDigit 1 := ⟨cbX12_isDigit, w_7_68, w_7_69⟩
theorem clX12_163 : o_CV "OddCancelModel" 163 12 mX12_ahead 0 := ⟨cbX12_ahead, w_7_57, w_7_59, (o_tb_of (List.mem_of_getElem? (i := 48) rfl) rfl), TX12, _, rfl⟩
theorem clX12_166 : o_CV "OddCancelModel" 166 12 mX12_isSign 1 := ⟨cbX12_isSign, w_7_164, w_7_166, (o_tb_of (List.mem_of_getElem? (i := 72) rfl) rfl), TX12, _, rfl⟩
theorem clX12_169 : o_CV "OddCancelModel" 169 12 mX12_fails 1 := ⟨cbX12_fails, w_7_96, w_7_98, (o_tb_of (List.mem_of_getElem? (i := 55) rfl) rfl), TX12, _, rfl⟩
theorem clX12_172 : o_CV "OddCancelModel" 172 12 mX12_inWords 1 := ⟨cbX12_inWords, w_7_82, w_7_84, (o_tb_of (List.mem_of_getElem? (i := 52) rfl) rfl), TX12, _, rfl⟩
theorem clX12_176 : o_CV "OddCancelModel" 176 12 mX12_nameHere 0 := ⟨cbX12_nameHere, w_7_108, w_7_110, (o_tb_of (List.mem_of_getElem? (i := 58) rfl) rfl), TX12, _, rfl⟩
theorem clX12_182 : o_CV "OddCancelModel" 182 12 mX12_isName 1 := ⟨cbX12_isName, w_7_100, w_7_102, (o_tb_of (List.mem_of_getElem? (i := 56) rfl) rfl), TX12, _, rfl⟩
theorem clX12_186 : o_CV "OddCancelModel" 186 12 mX12_findHere 2 := ⟨cbX12_findHere, w_7_104, w_7_106, (o_tb_of (List.mem_of_getElem? (i := 57) rfl) rfl), TX12, _, rfl⟩
theorem clX12_189 : o_CV "OddCancelModel" 189 12 mX12_oldOne 3 := ⟨cbX12_oldOne, w_7_132, w_7_134, (o_tb_of (List.mem_of_getElem? (i := 64) rfl) rfl), TX12, _, rfl⟩
theorem clX12_193 : o_CV "OddCancelModel" 193 12 mX12_personTo 1 := ⟨cbX12_personTo, w_7_144, w_7_146, (o_tb_of (List.mem_of_getElem? (i := 67) rfl) rfl), TX12, _, rfl⟩
theorem clX12_196 : o_CV "OddCancelModel" 196 12 mX12_newOne 3 := ⟨cbX12_newOne, w_7_92, w_7_94, (o_tb_of (List.mem_of_getElem? (i := 54) rfl) rfl), TX12, _, rfl⟩
theorem clX12_199 : o_CV "OddCancelModel" 199 12 mX12_isThere 1 := ⟨cbX12_isThere, w_7_112, w_7_114, (o_tb_of (List.mem_of_getElem? (i := 59) rfl) rfl), TX12, _, rfl⟩
theorem clX12_202 : o_CV "OddCancelModel" 202 12 mX12_number 3 := ⟨cbX12_number, w_7_116, w_7_118, (o_tb_of (List.mem_of_getElem? (i := 60) rfl) rfl), TX12, _, rfl⟩
theorem clX12_205 : o_CV "OddCancelModel" 205 12 mX12_wantWord 2 := ⟨cbX12_wantWord, w_7_124, w_7_126, (o_tb_of (List.mem_of_getElem? (i := 62) rfl) rfl), TX12, _, rfl⟩
theorem clX12_209 : o_CV "OddCancelModel" 209 12 mX12_handTo 1 := ⟨cbX12_handTo, w_7_128, w_7_130, (o_tb_of (List.mem_of_getElem? (i := 63) rfl) rfl), TX12, _, rfl⟩
theorem clX12_212 : o_CV "OddCancelModel" 212 12 mX12_strikeTo 1 := ⟨cbX12_strikeTo, w_7_140, w_7_142, (o_tb_of (List.mem_of_getElem? (i := 66) rfl) rfl), TX12, _, rfl⟩
theorem clX12_215 : o_CV "OddCancelModel" 215 12 mX12_otherTo 2 := ⟨cbX12_otherTo, w_7_152, w_7_154, (o_tb_of (List.mem_of_getElem? (i := 69) rfl) rfl), TX12, _, rfl⟩
theorem clX12_219 : o_CV "OddCancelModel" 219 12 mX12_aStrike 0 := ⟨cbX12_aStrike, w_7_88, w_7_90, (o_tb_of (List.mem_of_getElem? (i := 53) rfl) rfl), TX12, _, rfl⟩
theorem clX12_223 : o_CV "OddCancelModel" 223 12 mX12_aPerson 0 := ⟨cbX12_aPerson, w_7_120, w_7_122, (o_tb_of (List.mem_of_getElem? (i := 61) rfl) rfl), TX12, _, rfl⟩
theorem clX12_226 : o_CV "OddCancelModel" 226 12 mX12_aLaw 0 := ⟨cbX12_aLaw, w_7_136, w_7_138, (o_tb_of (List.mem_of_getElem? (i := 65) rfl) rfl), TX12, _, rfl⟩
theorem clX12_229 : o_CV "OddCancelModel" 229 12 mX12_anAct 0 := ⟨cbX12_anAct, w_7_148, w_7_150, (o_tb_of (List.mem_of_getElem? (i := 68) rfl) rfl), TX12, _, rfl⟩
theorem clX12_232 : o_CV "OddCancelModel" 232 12 mX12_aLetter 0 := ⟨cbX12_aLetter, w_7_156, w_7_158, (o_tb_of (List.mem_of_getElem? (i := 70) rfl) rfl), TX12, _, rfl⟩
theorem clX12_239 : o_CV "OddCancelModel" 239 12 mX12_wantSign 1 := ⟨cbX12_wantSign, w_7_160, w_7_162, (o_tb_of (List.mem_of_getElem? (i := 71) rfl) rfl), TX12, _, rfl⟩
theorem clX12_242 : o_CV "OddCancelModel" 242 12 mX12_begins 2 := ⟨cbX12_begins, w_7_53, w_7_55, (o_tb_of (List.mem_of_getElem? (i := 47) rfl) rfl), TX12, _, rfl⟩
theorem clX12_245 : o_CV "OddCancelModel" 245 12 mX12_valleyPart 0 := ⟨cbX12_valleyPart, w_7_77, w_7_79, (o_tb_of (List.mem_of_getElem? (i := 51) rfl) rfl), TX12, _, rfl⟩
theorem clX12_248 : o_CV "OddCancelModel" 248 12 mX12_taken 1 := ⟨cbX12_taken, w_7_168, w_7_170, (o_tb_of (List.mem_of_getElem? (i := 73) rfl) rfl), TX12, _, rfl⟩
theorem clX12_251 : o_CV "OddCancelModel" 251 12 mX12_oldPersonTo 1 := ⟨cbX12_oldPersonTo, w_7_188, w_7_190, (o_tb_of (List.mem_of_getElem? (i := 77) rfl) rfl), TX12, _, rfl⟩
theorem clX12_254 : o_CV "OddCancelModel" 254 12 mX12_test 1 := ⟨cbX12_test, w_7_192, w_7_194, (o_tb_of (List.mem_of_getElem? (i := 78) rfl) rfl), TX12, _, rfl⟩
theorem clX12_263 : o_CV "OddCancelModel" 263 12 mX12_weekOrder 2 := ⟨cbX12_weekOrder, w_7_184, w_7_186, (o_tb_of (List.mem_of_getElem? (i := 76) rfl) rfl), TX12, _, rfl⟩
theorem clX12_266 : o_CV "OddCancelModel" 266 12 mX12_weekStep 0 := ⟨cbX12_weekStep, w_7_180, w_7_182, (o_tb_of (List.mem_of_getElem? (i := 75) rfl) rfl), TX12, _, rfl⟩
theorem clX12_269 : o_CV "OddCancelModel" 269 12 mX12_isPerson 1 := ⟨cbX12_isPerson, w_7_215, w_7_217, (o_tb_of (List.mem_of_getElem? (i := 80) rfl) rfl), TX12, _, rfl⟩
theorem clX12_274 : o_CV "OddCancelModel" 274 12 mX12_areTwo 2 := ⟨cbX12_areTwo, w_8_35, w_8_37, (o_tb_of (List.mem_of_getElem? (i := 86) rfl) rfl), TX12, _, rfl⟩
theorem clX12_277 : o_CS "OddCancelModel" 277 mX12_isWeight 1 := ⟨cbX12_isWeight, w_8_39, w_8_40⟩
theorem clX12_281 : o_CV "OddCancelModel" 281 12 mX12_isHand 1 := ⟨cbX12_isHand, w_8_43, w_8_45, (o_tb_of (List.mem_of_getElem? (i := 87) rfl) rfl), TX12, _, rfl⟩
theorem clX12_284 : o_CV "OddCancelModel" 284 12 mX12_isStrike 1 := ⟨cbX12_isStrike, w_7_204, w_7_206, (o_tb_of (List.mem_of_getElem? (i := 79) rfl) rfl), TX12, _, rfl⟩
theorem clX12_287 : o_CS "OddCancelModel" 287 mX12_strikeRow 1 := ⟨cbX12_strikeRow, w_7_208, w_7_209⟩
theorem clX12_290 : o_CV "OddCancelModel" 290 12 mX12_handOf 1 := ⟨cbX12_handOf, w_7_219, w_7_221, (o_tb_of (List.mem_of_getElem? (i := 81) rfl) rfl), TX12, _, rfl⟩
theorem clX12_293 : o_CV "OddCancelModel" 293 12 mX12_isLaw 1 := ⟨cbX12_isLaw, w_7_227, w_7_229, (o_tb_of (List.mem_of_getElem? (i := 82) rfl) rfl), TX12, _, rfl⟩
theorem clX12_296 : o_CS "OddCancelModel" 296 mX12_lawRow 1 := ⟨cbX12_lawRow, w_7_231, w_7_232⟩
theorem clX12_299 : o_CV "OddCancelModel" 299 12 mX12_orNone 1 := ⟨cbX12_orNone, w_7_234, w_7_236, (o_tb_of (List.mem_of_getElem? (i := 83) rfl) rfl), TX12, _, rfl⟩
theorem clX12_302 : o_CS "OddCancelModel" 302 mX12_actRow 2 := ⟨cbX12_actRow, w_8_2, w_8_3⟩
theorem clX12_305 : o_CV "OddCancelModel" 305 12 mX12_isLetter 1 := ⟨cbX12_isLetter, w_8_9, w_8_11, (o_tb_of (List.mem_of_getElem? (i := 84) rfl) rfl), TX12, _, rfl⟩
theorem clX12_308 : o_CS "OddCancelModel" 308 mX12_letterRow 1 := ⟨cbX12_letterRow, w_8_13, w_8_14⟩
theorem clX12_311 : o_CS "OddCancelModel" 311 mX12_coverRow 1 := ⟨cbX12_coverRow, w_8_20, w_8_21⟩
theorem clX12_314 : o_CV "OddCancelModel" 314 12 mX12_doesFit 5 := ⟨cbX12_doesFit, w_8_82, w_8_84, (o_tb_of (List.mem_of_getElem? (i := 95) rfl) rfl), TX12, _, rfl⟩
theorem clX12_318 : o_CV "OddCancelModel" 318 12 mX12_firstLaw 4 := ⟨cbX12_firstLaw, w_8_78, w_8_80, (o_tb_of (List.mem_of_getElem? (i := 94) rfl) rfl), TX12, _, rfl⟩
theorem clX12_322 : o_CV "OddCancelModel" 322 12 mX12_strikeBy 1 := ⟨cbX12_strikeBy, w_8_86, w_8_88, (o_tb_of (List.mem_of_getElem? (i := 96) rfl) rfl), TX12, _, rfl⟩
theorem clX12_325 : o_CV "OddCancelModel" 325 12 mX12_sober 4 := ⟨cbX12_sober, w_8_74, w_8_76, (o_tb_of (List.mem_of_getElem? (i := 93) rfl) rfl), TX12, _, rfl⟩
theorem clX12_328 : o_CV "OddCancelModel" 328 12 mX12_drunkFor 1 := ⟨cbX12_drunkFor, w_8_90, w_8_92, (o_tb_of (List.mem_of_getElem? (i := 97) rfl) rfl), TX12, _, rfl⟩
theorem clX12_331 : o_CV "OddCancelModel" 331 12 mX12_isMail 4 := ⟨cbX12_isMail, w_8_31, w_8_33, (o_tb_of (List.mem_of_getElem? (i := 85) rfl) rfl), TX12, _, rfl⟩
theorem clX12_335 : o_CV "OddCancelModel" 335 12 mX12_posts 4 := ⟨cbX12_posts, w_8_47, w_8_49, (o_tb_of (List.mem_of_getElem? (i := 88) rfl) rfl), TX12, _, rfl⟩
theorem clX12_339 : o_CV "OddCancelModel" 339 12 mX12_struck 4 := ⟨cbX12_struck, w_8_70, w_8_72, (o_tb_of (List.mem_of_getElem? (i := 92) rfl) rfl), TX12, _, rfl⟩
theorem clX12_342 : o_CV "OddCancelModel" 342 12 mX12_brings 1 := ⟨cbX12_brings, w_8_66, w_8_68, (o_tb_of (List.mem_of_getElem? (i := 91) rfl) rfl), TX12, _, rfl⟩
theorem clX12_345 : o_CV "OddCancelModel" 345 12 mX12_dayGoes 0 := ⟨cbX12_dayGoes, w_8_62, w_8_64, (o_tb_of (List.mem_of_getElem? (i := 90) rfl) rfl), TX12, _, rfl⟩
theorem clX12_348 : o_CS "OddCancelModel" 348 mX12_isFrom 3 := ⟨cbX12_isFrom, w_8_55, w_8_56⟩
theorem clX12_352 : o_CV "OddCancelModel" 352 12 mX12_daysGo 1 := ⟨cbX12_daysGo, w_8_58, w_8_60, (o_tb_of (List.mem_of_getElem? (i := 89) rfl) rfl), TX12, _, rfl⟩
theorem clX12_359 : o_CV "OddCancelModel" 359 12 mX12_tellsBy 2 := ⟨cbX12_tellsBy, w_8_148, w_8_150, (o_tb_of (List.mem_of_getElem? (i := 98) rfl) rfl), TX12, _, rfl⟩
theorem clX12_363 : o_CV "OddCancelModel" 363 12 mX12_isAsked 4 := ⟨cbX12_isAsked, w_8_160, w_8_162, (o_tb_of (List.mem_of_getElem? (i := 99) rfl) rfl), TX12, _, rfl⟩
theorem clX12_367 : o_CV "OddCancelModel" 367 12 mX12_isStruck 3 := ⟨cbX12_isStruck, w_8_189, w_8_191, (o_tb_of (List.mem_of_getElem? (i := 102) rfl) rfl), TX12, _, rfl⟩
theorem clX12_370 : o_CV "OddCancelModel" 370 12 mX12_isWay 4 := ⟨cbX12_isWay, w_8_180, w_8_182, (o_tb_of (List.mem_of_getElem? (i := 100) rfl) rfl), TX12, _, rfl⟩
theorem clX12_373 : o_CV "OddCancelModel" 373 12 mX12_laysVia 3 := ⟨cbX12_laysVia, w_8_184, w_8_186, (o_tb_of (List.mem_of_getElem? (i := 101) rfl) rfl), TX12, _, rfl⟩
theorem clX12_377 : o_CV "OddCancelModel" 377 12 mX12_isCouple 2 := ⟨cbX12_isCouple, w_8_201, w_8_203, (o_tb_of (List.mem_of_getElem? (i := 103) rfl) rfl), TX12, _, rfl⟩
theorem clX12_380 : o_CV "OddCancelModel" 380 12 mX12_laysEchoes 0 := ⟨cbX12_laysEchoes, w_8_205, w_8_207, (o_tb_of (List.mem_of_getElem? (i := 104) rfl) rfl), TX12, _, rfl⟩
theorem clX12_383 : o_CV "OddCancelModel" 383 12 mX12_echoFrom 1 := ⟨cbX12_echoFrom, w_8_209, w_8_211, (o_tb_of (List.mem_of_getElem? (i := 105) rfl) rfl), TX12, _, rfl⟩
theorem clX12_386 : o_CV "OddCancelModel" 386 12 mX12_ringFrom 1 := ⟨cbX12_ringFrom, w_8_217, w_8_219, (o_tb_of (List.mem_of_getElem? (i := 106) rfl) rfl), TX12, _, rfl⟩
theorem clX12_389 : o_CV "OddCancelModel" 389 12 mX12_comesBack 1 := ⟨cbX12_comesBack, w_8_225, w_8_227, (o_tb_of (List.mem_of_getElem? (i := 107) rfl) rfl), TX12, _, rfl⟩
theorem clX12_394 : o_CV "OddCancelModel" 394 12 mX12_wrongRow 2 := ⟨cbX12_wrongRow, w_8_237, w_8_239, (o_tb_of (List.mem_of_getElem? (i := 108) rfl) rfl), TX12, _, rfl⟩
theorem clX12_397 : o_CV "OddCancelModel" 397 12 mX12_rowAt 2 := ⟨cbX12_rowAt, w_9_2, w_9_4, (o_tb_of (List.mem_of_getElem? (i := 109) rfl) rfl), TX12, _, rfl⟩
theorem clX12_400 : o_CV "OddCancelModel" 400 12 mX12_findsLetter 2 := ⟨cbX12_findsLetter, w_9_22, w_9_24, (o_tb_of (List.mem_of_getElem? (i := 111) rfl) rfl), TX12, _, rfl⟩
theorem clX12_403 : o_CV "OddCancelModel" 403 12 mX12_spellsTo 2 := ⟨cbX12_spellsTo, w_9_18, w_9_20, (o_tb_of (List.mem_of_getElem? (i := 110) rfl) rfl), TX12, _, rfl⟩
theorem clX12_410 : o_CV "OddCancelModel" 410 12 mX12_isLine 4 := ⟨cbX12_isLine, w_9_44, w_9_46, (o_tb_of (List.mem_of_getElem? (i := 114) rfl) rfl), TX12, _, rfl⟩
theorem clX12_413 : o_CV "OddCancelModel" 413 12 mX12_wrongCovers 4 := ⟨cbX12_wrongCovers, w_9_35, w_9_37, (o_tb_of (List.mem_of_getElem? (i := 112) rfl) rfl), TX12, _, rfl⟩
theorem clX12_416 : o_CV "OddCancelModel" 416 12 mX12_linesFrom 5 := ⟨cbX12_linesFrom, w_9_40, w_9_42, (o_tb_of (List.mem_of_getElem? (i := 113) rfl) rfl), TX12, _, rfl⟩
theorem clX12_423 : o_CS "OddCancelModel" 423 mX12_bits 1 := ⟨cbX12_bits, w_9_57, w_9_58⟩
theorem clX12_426 : o_CV "OddCancelModel" 426 12 mX12_lastLaw 4 := ⟨cbX12_lastLaw, w_9_83, w_9_85, (o_tb_of (List.mem_of_getElem? (i := 119) rfl) rfl), TX12, _, rfl⟩
theorem clX12_432 : o_CV "OddCancelModel" 432 12 mX12_weighs 2 := ⟨cbX12_weighs, w_9_71, w_9_73, (o_tb_of (List.mem_of_getElem? (i := 116) rfl) rfl), TX12, _, rfl⟩
theorem clX12_436 : o_CV "OddCancelModel" 436 12 mX12_isTaken 2 := ⟨cbX12_isTaken, w_9_75, w_9_77, (o_tb_of (List.mem_of_getElem? (i := 117) rfl) rfl), TX12, _, rfl⟩
theorem clX12_439 : o_CV "OddCancelModel" 439 12 mX12_worthBy 2 := ⟨cbX12_worthBy, w_9_79, w_9_81, (o_tb_of (List.mem_of_getElem? (i := 118) rfl) rfl), TX12, _, rfl⟩
theorem clX12_443 : o_CS "OddCancelModel" 443 mX12_areTurns 1 := ⟨cbX12_areTurns, w_9_64, w_9_65⟩
theorem clX12_446 : o_CV "OddCancelModel" 446 12 mX12_plays 1 := ⟨cbX12_plays, w_9_67, w_9_69, (o_tb_of (List.mem_of_getElem? (i := 115) rfl) rfl), TX12, _, rfl⟩
theorem clX12_453 : o_CV "OddCancelModel" 453 12 mX12_daysBy 1 := ⟨cbX12_daysBy, w_9_108, w_9_110, (o_tb_of (List.mem_of_getElem? (i := 122) rfl) rfl), TX12, _, rfl⟩
theorem clX12_456 : o_CV "OddCancelModel" 456 12 mX12_postsBy 3 := ⟨cbX12_postsBy, w_9_112, w_9_114, (o_tb_of (List.mem_of_getElem? (i := 123) rfl) rfl), TX12, _, rfl⟩
theorem clX12_459 : o_CV "OddCancelModel" 459 12 mX12_isNowDrunk 1 := ⟨cbX12_isNowDrunk, w_9_116, w_9_118, (o_tb_of (List.mem_of_getElem? (i := 124) rfl) rfl), TX12, _, rfl⟩
theorem clX12_462 : o_CV "OddCancelModel" 462 12 mX12_draw 1 := ⟨cbX12_draw, w_9_120, w_9_122, (o_tb_of (List.mem_of_getElem? (i := 125) rfl) rfl), TX12, _, rfl⟩
theorem clX12_465 : o_CV "OddCancelModel" 465 12 mX12_hasCover 1 := ⟨cbX12_hasCover, w_9_129, w_9_131, (o_tb_of (List.mem_of_getElem? (i := 127) rfl) rfl), TX12, _, rfl⟩
theorem clX12_471 : o_CV "OddCancelModel" 471 12 mX12_does 1 := ⟨cbX12_does, w_9_104, w_9_106, (o_tb_of (List.mem_of_getElem? (i := 121) rfl) rfl), TX12, _, rfl⟩
theorem clX12_474 : o_CV "OddCancelModel" 474 12 mX12_holds 1 := ⟨cbX12_holds, w_9_125, w_9_127, (o_tb_of (List.mem_of_getElem? (i := 126) rfl) rfl), TX12, _, rfl⟩
theorem clX12_477 : o_CV "OddCancelModel" 477 12 mX12_behindEnds 1 := ⟨cbX12_behindEnds, w_9_133, w_9_135, (o_tb_of (List.mem_of_getElem? (i := 128) rfl) rfl), TX12, _, rfl⟩
theorem clX12_482 : o_CV "OddCancelModel" 482 12 mX12_lives 1 := ⟨cbX12_lives, w_9_100, w_9_102, (o_tb_of (List.mem_of_getElem? (i := 120) rfl) rfl), TX12, _, rfl⟩
theorem clX12_493 : o_CV "OddCancelModel" 493 12 mX12_copies 2 := ⟨cbX12_copies, w_9_150, w_9_152, (o_tb_of (List.mem_of_getElem? (i := 129) rfl) rfl), TX12, _, rfl⟩
theorem cstX11_within : Cond.static mX11_within.1 ∈ o_tb := w_3_35
theorem flX11_9 : o_FL "OddCancel" 9 11 2 := ⟨_, TX11, _, rfl, Nat.le_of_ble_eq_true rfl, inX11, w_2_198⟩
theorem fwX11_9 : o_FW "OddCancel" 9 11 2 .long := ⟨_, TX11, _, tyX11, rfl, Nat.le_of_ble_eq_true rfl, inX11, w_2_198, tyX11_ok, nmX11, rfl, rfl⟩
theorem flX11_15 : o_FL "OddCancel" 15 11 3 := ⟨_, TX11, _, rfl, Nat.le_of_ble_eq_true rfl, inX11, w_2_199⟩
theorem flX11_23 : o_FL "OddCancel" 23 11 4 := ⟨_, TX11, _, rfl, Nat.le_of_ble_eq_true rfl, inX11, w_2_200⟩
theorem flX11_27 : o_FL "OddCancel" 27 11 5 := ⟨_, TX11, _, rfl, Nat.le_of_ble_eq_true rfl, inX11, w_2_201⟩
theorem flX11_33 : o_FL "OddCancel" 33 11 6 := ⟨_, TX11, _, rfl, Nat.le_of_ble_eq_true rfl, inX11, w_2_202⟩
theorem flX11_37 : o_FL "OddCancel" 37 11 7 := ⟨_, TX11, _, rfl, Nat.le_of_ble_eq_true rfl, inX11, w_2_203⟩
theorem flX11_40 : o_FL "OddCancel" 40 11 8 := ⟨_, TX11, _, rfl, Nat.le_of_ble_eq_true rfl, inX11, w_2_204⟩
theorem flX11_44 : o_FL "OddCancel" 44 11 9 := ⟨_, TX11, _, rfl, Nat.le_of_ble_eq_true rfl, inX11, w_2_205⟩
theorem flX11_51 : o_FL "OddCancel" 51 11 11 := ⟨_, TX11, _, rfl, Nat.le_of_ble_eq_true rfl, inX11, w_2_207⟩
theorem flX11_60 : o_FL "OddCancel" 60 11 12 := ⟨_, TX11, _, rfl, Nat.le_of_ble_eq_true rfl, inX11, w_2_208⟩
theorem flX11_69 : o_FL "OddCancel" 69 11 13 := ⟨_, TX11, _, rfl, Nat.le_of_ble_eq_true rfl, inX11, w_2_209⟩
theorem flX11_76 : o_FL "OddCancel" 76 11 14 := ⟨_, TX11, _, rfl, Nat.le_of_ble_eq_true rfl, inX11, w_2_210⟩
theorem flX11_80 : o_FL "OddCancel" 80 11 15 := ⟨_, TX11, _, rfl, Nat.le_of_ble_eq_true rfl, inX11, w_2_211⟩
theorem flX11_87 : o_FL "OddCancel" 87 11 16 := ⟨_, TX11, _, rfl, Nat.le_of_ble_eq_true rfl, inX11, w_2_212⟩
theorem flX11_94 : o_FL "OddCancel" 94 11 17 := ⟨_, TX11, _, rfl, Nat.le_of_ble_eq_true rfl, inX11, w_2_213⟩
theorem flX11_101 : o_FL "OddCancel" 101 11 18 := ⟨_, TX11, _, rfl, Nat.le_of_ble_eq_true rfl, inX11, w_2_214⟩
theorem flX11_105 : o_FL "OddCancel" 105 11 0 := ⟨_, TX11, _, rfl, Nat.le_of_ble_eq_true rfl, inX11, w_2_196⟩
theorem fwX11_105 : o_FW "OddCancel" 105 11 0 .int := ⟨_, TX11, _, tyX11, rfl, Nat.le_of_ble_eq_true rfl, inX11, w_2_196, tyX11_ok, nmX11, rfl, rfl⟩
theorem flX11_109 : o_FL "OddCancel" 109 11 1 := ⟨_, TX11, _, rfl, Nat.le_of_ble_eq_true rfl, inX11, w_2_197⟩
theorem fwX11_109 : o_FW "OddCancel" 109 11 1 .long := ⟨_, TX11, _, tyX11, rfl, Nat.le_of_ble_eq_true rfl, inX11, w_2_197, tyX11_ok, nmX11, rfl, rfl⟩
theorem flX11_143 : o_FL "OddCancel" 143 7 3 := ⟨_, TX7, _, rfl, Nat.le_of_ble_eq_true rfl, inX7, w_1_45⟩
theorem flX11_147 : o_FL "OddCancel" 147 7 0 := ⟨_, TX7, _, rfl, Nat.le_of_ble_eq_true rfl, inX7, w_1_38⟩
theorem flX11_151 : o_FL "OddCancel" 151 7 1 := ⟨_, TX7, _, rfl, Nat.le_of_ble_eq_true rfl, inX7, w_1_40⟩
theorem flX11_154 : o_FL "OddCancel" 154 7 2 := ⟨_, TX7, _, rfl, Nat.le_of_ble_eq_true rfl, inX7, w_1_42⟩
theorem flX11_171 : o_FL "OddCancel" 171 4 1 := ⟨_, TX4, _, rfl, Nat.le_of_ble_eq_true rfl, inX4, w_2_12⟩
theorem flX11_184 : o_FL "OddCancel" 184 8 3 := ⟨_, TX8, _, rfl, Nat.le_of_ble_eq_true rfl, inX8, w_1_122⟩
theorem flX11_194 : o_FL "OddCancel" 194 3 1 := ⟨_, TX3, _, rfl, Nat.le_of_ble_eq_true rfl, inX3, w_1_214⟩
theorem flX11_197 : o_FL "OddCancel" 197 4 2 := ⟨_, TX4, _, rfl, Nat.le_of_ble_eq_true rfl, inX4, w_2_14⟩
theorem flX11_200 : o_FL "OddCancel" 200 4 3 := ⟨_, TX4, _, rfl, Nat.le_of_ble_eq_true rfl, inX4, w_2_16⟩
theorem flX11_203 : o_FL "OddCancel" 203 8 0 := ⟨_, TX8, _, rfl, Nat.le_of_ble_eq_true rfl, inX8, w_1_111⟩
theorem flX11_206 : o_FL "OddCancel" 206 8 1 := ⟨_, TX8, _, rfl, Nat.le_of_ble_eq_true rfl, inX8, w_1_114⟩
theorem flX11_209 : o_FL "OddCancel" 209 8 2 := ⟨_, TX8, _, rfl, Nat.le_of_ble_eq_true rfl, inX8, w_1_119⟩
theorem flX11_212 : o_FL "OddCancel" 212 8 15 := ⟨_, TX8, _, rfl, Nat.le_of_ble_eq_true rfl, inX8, w_1_160⟩
theorem flX11_216 : o_FL "OddCancel" 216 1 0 := ⟨_, TX1, _, rfl, Nat.le_of_ble_eq_true rfl, inX1, w_1_73⟩
theorem flX11_219 : o_FL "OddCancel" 219 8 16 := ⟨_, TX8, _, rfl, Nat.le_of_ble_eq_true rfl, inX8, w_1_163⟩
theorem flX11_222 : o_FL "OddCancel" 222 8 4 := ⟨_, TX8, _, rfl, Nat.le_of_ble_eq_true rfl, inX8, w_1_126⟩
theorem fwX11_222 : o_FW "OddCancel" 222 8 4 .int := ⟨_, TX8, _, tyX8, rfl, Nat.le_of_ble_eq_true rfl, inX8, w_1_126, tyX8_ok, nmX8, rfl, rfl⟩
theorem flX11_225 : o_FL "OddCancel" 225 8 5 := ⟨_, TX8, _, rfl, Nat.le_of_ble_eq_true rfl, inX8, w_1_128⟩
theorem flX11_228 : o_FL "OddCancel" 228 8 6 := ⟨_, TX8, _, rfl, Nat.le_of_ble_eq_true rfl, inX8, w_1_131⟩
theorem fwX11_228 : o_FW "OddCancel" 228 8 6 .boolean := ⟨_, TX8, _, tyX8, rfl, Nat.le_of_ble_eq_true rfl, inX8, w_1_131, tyX8_ok, nmX8, rfl, rfl⟩
theorem flX11_231 : o_FL "OddCancel" 231 8 7 := ⟨_, TX8, _, rfl, Nat.le_of_ble_eq_true rfl, inX8, w_1_133⟩
theorem flX11_234 : o_FL "OddCancel" 234 8 8 := ⟨_, TX8, _, rfl, Nat.le_of_ble_eq_true rfl, inX8, w_1_135⟩
theorem flX11_245 : o_FL "OddCancel" 245 8 9 := ⟨_, TX8, _, rfl, Nat.le_of_ble_eq_true rfl, inX8, w_1_138⟩
theorem flX11_251 : o_FL "OddCancel" 251 8 11 := ⟨_, TX8, _, rfl, Nat.le_of_ble_eq_true rfl, inX8, w_1_146⟩
theorem flX11_256 : o_FL "OddCancel" 256 8 12 := ⟨_, TX8, _, rfl, Nat.le_of_ble_eq_true rfl, inX8, w_1_149⟩
theorem flX11_266 : o_FL "OddCancel" 266 8 13 := ⟨_, TX8, _, rfl, Nat.le_of_ble_eq_true rfl, inX8, w_1_152⟩
theorem flX11_269 : o_FL "OddCancel" 269 8 14 := ⟨_, TX8, _, rfl, Nat.le_of_ble_eq_true rfl, inX8, w_1_155⟩
theorem flX11_277 : o_FL "OddCancel" 277 8 10 := ⟨_, TX8, _, rfl, Nat.le_of_ble_eq_true rfl, inX8, w_1_140⟩
theorem flX11_304 : o_FL "OddCancel" 304 1 3 := ⟨_, TX1, _, rfl, Nat.le_of_ble_eq_true rfl, inX1, w_1_84⟩
theorem flX11_354 : o_FL "OddCancel" 354 6 0 := ⟨_, TX6, _, rfl, Nat.le_of_ble_eq_true rfl, inX6, w_2_139⟩
theorem flX11_365 : o_FL "OddCancel" 365 6 2 := ⟨_, TX6, _, rfl, Nat.le_of_ble_eq_true rfl, inX6, w_2_143⟩
theorem flX11_368 : o_FL "OddCancel" 368 6 1 := ⟨_, TX6, _, rfl, Nat.le_of_ble_eq_true rfl, inX6, w_2_141⟩
theorem flX11_371 : o_FL "OddCancel" 371 6 3 := ⟨_, TX6, _, rfl, Nat.le_of_ble_eq_true rfl, inX6, w_2_145⟩
theorem flX11_388 : o_FL "OddCancel" 388 1 5 := ⟨_, TX1, _, rfl, Nat.le_of_ble_eq_true rfl, inX1, w_1_94⟩
theorem flX11_397 : o_FL "OddCancel" 397 5 0 := ⟨_, TX5, _, rfl, Nat.le_of_ble_eq_true rfl, inX5, w_2_167⟩
theorem flX11_413 : o_FL "OddCancel" 413 1 1 := ⟨_, TX1, _, rfl, Nat.le_of_ble_eq_true rfl, inX1, w_1_77⟩
theorem flX11_416 : o_FL "OddCancel" 416 1 2 := ⟨_, TX1, _, rfl, Nat.le_of_ble_eq_true rfl, inX1, w_1_81⟩
theorem flX11_419 : o_FL "OddCancel" 419 1 4 := ⟨_, TX1, _, rfl, Nat.le_of_ble_eq_true rfl, inX1, w_1_89⟩
theorem flX11_444 : o_FL "OddCancel" 444 3 0 := ⟨_, TX3, _, rfl, Nat.le_of_ble_eq_true rfl, inX3, w_1_211⟩
theorem flX11_449 : o_FL "OddCancel" 449 2 0 := ⟨_, TX2, _, rfl, Nat.le_of_ble_eq_true rfl, inX2, w_2_102⟩
theorem flX11_452 : o_FL "OddCancel" 452 2 1 := ⟨_, TX2, _, rfl, Nat.le_of_ble_eq_true rfl, inX2, w_2_104⟩
theorem flX11_455 : o_FL "OddCancel" 455 2 2 := ⟨_, TX2, _, rfl, Nat.le_of_ble_eq_true rfl, inX2, w_2_106⟩
theorem flX11_457 : o_FL "OddCancel" 457 2 3 := ⟨_, TX2, _, rfl, Nat.le_of_ble_eq_true rfl, inX2, w_2_108⟩
theorem flX11_458 : o_FL "OddCancel" 458 2 4 := ⟨_, TX2, _, rfl, Nat.le_of_ble_eq_true rfl, inX2, w_2_110⟩
theorem flX11_461 : o_FL "OddCancel" 461 2 5 := ⟨_, TX2, _, rfl, Nat.le_of_ble_eq_true rfl, inX2, w_2_112⟩
theorem flX11_464 : o_FL "OddCancel" 464 11 10 := ⟨_, TX11, _, rfl, Nat.le_of_ble_eq_true rfl, inX11, w_2_206⟩
theorem fwX11_464 : o_FW "OddCancel" 464 11 10 .int := ⟨_, TX11, _, tyX11, rfl, Nat.le_of_ble_eq_true rfl, inX11, w_2_206, tyX11_ok, nmX11, rfl, rfl⟩
theorem flX0_9 : o_FL "OddCancel$Brothers" 9 0 1 := ⟨_, TX0, _, rfl, Nat.le_of_ble_eq_true rfl, inX0, w_2_187⟩
theorem flX0_15 : o_FL "OddCancel$Brothers" 15 0 2 := ⟨_, TX0, _, rfl, Nat.le_of_ble_eq_true rfl, inX0, w_2_188⟩
theorem flX0_18 : o_FL "OddCancel$Brothers" 18 8 15 := ⟨_, TX8, _, rfl, Nat.le_of_ble_eq_true rfl, inX8, w_1_157⟩
theorem flX0_24 : o_FL "OddCancel$Brothers" 24 1 0 := ⟨_, TX1, _, rfl, Nat.le_of_ble_eq_true rfl, inX1, w_1_69⟩
theorem flX0_30 : o_FL "OddCancel$Brothers" 30 0 0 := ⟨_, TX0, _, rfl, Nat.le_of_ble_eq_true rfl, inX0, w_2_186⟩
theorem fwX0_30 : o_FW "OddCancel$Brothers" 30 0 0 .int := ⟨_, TX0, _, tyX0, rfl, Nat.le_of_ble_eq_true rfl, inX0, w_2_186, tyX0_ok, nmX0, rfl, rfl⟩
theorem flX0_31 : o_FL "OddCancel$Brothers" 31 1 1 := ⟨_, TX1, _, rfl, Nat.le_of_ble_eq_true rfl, inX1, w_1_75⟩
theorem flX0_34 : o_FL "OddCancel$Brothers" 34 1 2 := ⟨_, TX1, _, rfl, Nat.le_of_ble_eq_true rfl, inX1, w_1_79⟩
theorem flX0_37 : o_FL "OddCancel$Brothers" 37 1 3 := ⟨_, TX1, _, rfl, Nat.le_of_ble_eq_true rfl, inX1, w_1_83⟩
theorem flX0_40 : o_FL "OddCancel$Brothers" 40 1 4 := ⟨_, TX1, _, rfl, Nat.le_of_ble_eq_true rfl, inX1, w_1_87⟩
theorem flX1_9 : o_FL "OddCancel$Letters" 9 1 1 := ⟨_, TX1, _, rfl, Nat.le_of_ble_eq_true rfl, inX1, w_1_74⟩
theorem flX1_15 : o_FL "OddCancel$Letters" 15 1 2 := ⟨_, TX1, _, rfl, Nat.le_of_ble_eq_true rfl, inX1, w_1_78⟩
theorem flX1_18 : o_FL "OddCancel$Letters" 18 1 3 := ⟨_, TX1, _, rfl, Nat.le_of_ble_eq_true rfl, inX1, w_1_82⟩
theorem flX1_21 : o_FL "OddCancel$Letters" 21 1 4 := ⟨_, TX1, _, rfl, Nat.le_of_ble_eq_true rfl, inX1, w_1_86⟩
theorem flX1_24 : o_FL "OddCancel$Letters" 24 1 5 := ⟨_, TX1, _, rfl, Nat.le_of_ble_eq_true rfl, inX1, w_1_90⟩
theorem flX1_27 : o_FL "OddCancel$Letters" 27 1 0 := ⟨_, TX1, _, rfl, Nat.le_of_ble_eq_true rfl, inX1, w_1_68⟩
theorem fwX1_27 : o_FW "OddCancel$Letters" 27 1 0 .int := ⟨_, TX1, _, tyX1, rfl, Nat.le_of_ble_eq_true rfl, inX1, w_1_68, tyX1_ok, nmX1, rfl, rfl⟩
theorem flX2_9 : o_FL "OddCancel$Life" 9 2 7 := ⟨_, TX2, _, rfl, Nat.le_of_ble_eq_true rfl, inX2, w_2_114⟩
theorem flX2_15 : o_FL "OddCancel$Life" 15 2 0 := ⟨_, TX2, _, rfl, Nat.le_of_ble_eq_true rfl, inX2, w_2_101⟩
theorem fwX2_15 : o_FW "OddCancel$Life" 15 2 0 .int := ⟨_, TX2, _, tyX2, rfl, Nat.le_of_ble_eq_true rfl, inX2, w_2_101, tyX2_ok, nmX2, rfl, rfl⟩
theorem flX2_19 : o_FL "OddCancel$Life" 19 2 1 := ⟨_, TX2, _, rfl, Nat.le_of_ble_eq_true rfl, inX2, w_2_103⟩
theorem fwX2_19 : o_FW "OddCancel$Life" 19 2 1 .int := ⟨_, TX2, _, tyX2, rfl, Nat.le_of_ble_eq_true rfl, inX2, w_2_103, tyX2_ok, nmX2, rfl, rfl⟩
theorem flX2_22 : o_FL "OddCancel$Life" 22 2 2 := ⟨_, TX2, _, rfl, Nat.le_of_ble_eq_true rfl, inX2, w_2_105⟩
theorem fwX2_22 : o_FW "OddCancel$Life" 22 2 2 .int := ⟨_, TX2, _, tyX2, rfl, Nat.le_of_ble_eq_true rfl, inX2, w_2_105, tyX2_ok, nmX2, rfl, rfl⟩
theorem flX2_25 : o_FL "OddCancel$Life" 25 2 3 := ⟨_, TX2, _, rfl, Nat.le_of_ble_eq_true rfl, inX2, w_2_107⟩
theorem fwX2_25 : o_FW "OddCancel$Life" 25 2 3 .int := ⟨_, TX2, _, tyX2, rfl, Nat.le_of_ble_eq_true rfl, inX2, w_2_107, tyX2_ok, nmX2, rfl, rfl⟩
theorem fwX2_28 : o_FW "OddCancel$Life" 28 2 4 .int := ⟨_, TX2, _, tyX2, rfl, Nat.le_of_ble_eq_true rfl, inX2, w_2_109, tyX2_ok, nmX2, rfl, rfl⟩
theorem flX2_31 : o_FL "OddCancel$Life" 31 2 5 := ⟨_, TX2, _, rfl, Nat.le_of_ble_eq_true rfl, inX2, w_2_111⟩
theorem fwX2_31 : o_FW "OddCancel$Life" 31 2 5 .int := ⟨_, TX2, _, tyX2, rfl, Nat.le_of_ble_eq_true rfl, inX2, w_2_111, tyX2_ok, nmX2, rfl, rfl⟩
theorem flX2_34 : o_FL "OddCancel$Life" 34 2 6 := ⟨_, TX2, _, rfl, Nat.le_of_ble_eq_true rfl, inX2, w_2_113⟩
theorem fwX2_34 : o_FW "OddCancel$Life" 34 2 6 .int := ⟨_, TX2, _, tyX2, rfl, Nat.le_of_ble_eq_true rfl, inX2, w_2_113, tyX2_ok, nmX2, rfl, rfl⟩
theorem flX2_38 : o_FL "OddCancel$Life" 38 3 2 := ⟨_, TX3, _, rfl, Nat.le_of_ble_eq_true rfl, inX3, w_1_216⟩
theorem flX2_43 : o_FL "OddCancel$Life" 43 3 3 := ⟨_, TX3, _, rfl, Nat.le_of_ble_eq_true rfl, inX3, w_1_219⟩
theorem flX2_54 : o_FL "OddCancel$Life" 54 3 6 := ⟨_, TX3, _, rfl, Nat.le_of_ble_eq_true rfl, inX3, w_1_225⟩
theorem flX2_57 : o_FL "OddCancel$Life" 57 3 4 := ⟨_, TX3, _, rfl, Nat.le_of_ble_eq_true rfl, inX3, w_1_221⟩
theorem flX2_70 : o_FL "OddCancel$Life" 70 3 5 := ⟨_, TX3, _, rfl, Nat.le_of_ble_eq_true rfl, inX3, w_1_223⟩
theorem flX2_85 : o_FL "OddCancel$Life" 85 8 4 := ⟨_, TX8, _, rfl, Nat.le_of_ble_eq_true rfl, inX8, w_1_124⟩
theorem flX2_88 : o_FL "OddCancel$Life" 88 8 6 := ⟨_, TX8, _, rfl, Nat.le_of_ble_eq_true rfl, inX8, w_1_130⟩
theorem fwX2_88 : o_FW "OddCancel$Life" 88 8 6 .boolean := ⟨_, TX8, _, tyX8, rfl, Nat.le_of_ble_eq_true rfl, inX8, w_1_130, tyX8_ok, nmX8, rfl, rfl⟩
theorem flX2_96 : o_FL "OddCancel$Life" 96 8 15 := ⟨_, TX8, _, rfl, Nat.le_of_ble_eq_true rfl, inX8, w_1_158⟩
theorem flX2_106 : o_FL "OddCancel$Life" 106 8 11 := ⟨_, TX8, _, rfl, Nat.le_of_ble_eq_true rfl, inX8, w_1_144⟩
theorem flX2_114 : o_FL "OddCancel$Life" 114 8 16 := ⟨_, TX8, _, rfl, Nat.le_of_ble_eq_true rfl, inX8, w_1_162⟩
theorem flX2_120 : o_FL "OddCancel$Life" 120 1 0 := ⟨_, TX1, _, rfl, Nat.le_of_ble_eq_true rfl, inX1, w_1_72⟩
theorem flX2_121 : o_FL "OddCancel$Life" 121 1 5 := ⟨_, TX1, _, rfl, Nat.le_of_ble_eq_true rfl, inX1, w_1_92⟩
theorem flX3_9 : o_FL "OddCancel$Plan" 9 3 3 := ⟨_, TX3, _, rfl, Nat.le_of_ble_eq_true rfl, inX3, w_1_218⟩
theorem flX3_15 : o_FL "OddCancel$Plan" 15 3 4 := ⟨_, TX3, _, rfl, Nat.le_of_ble_eq_true rfl, inX3, w_1_220⟩
theorem flX3_18 : o_FL "OddCancel$Plan" 18 3 5 := ⟨_, TX3, _, rfl, Nat.le_of_ble_eq_true rfl, inX3, w_1_222⟩
theorem flX3_21 : o_FL "OddCancel$Plan" 21 3 6 := ⟨_, TX3, _, rfl, Nat.le_of_ble_eq_true rfl, inX3, w_1_224⟩
theorem flX3_24 : o_FL "OddCancel$Plan" 24 3 0 := ⟨_, TX3, _, rfl, Nat.le_of_ble_eq_true rfl, inX3, w_1_209⟩
theorem fwX3_24 : o_FW "OddCancel$Plan" 24 3 0 .boolean := ⟨_, TX3, _, tyX3, rfl, Nat.le_of_ble_eq_true rfl, inX3, w_1_209, tyX3_ok, nmX3, rfl, rfl⟩
theorem flX3_28 : o_FL "OddCancel$Plan" 28 3 1 := ⟨_, TX3, _, rfl, Nat.le_of_ble_eq_true rfl, inX3, w_1_212⟩
theorem fwX3_28 : o_FW "OddCancel$Plan" 28 3 1 .int := ⟨_, TX3, _, tyX3, rfl, Nat.le_of_ble_eq_true rfl, inX3, w_1_212, tyX3_ok, nmX3, rfl, rfl⟩
theorem flX3_32 : o_FL "OddCancel$Plan" 32 3 2 := ⟨_, TX3, _, rfl, Nat.le_of_ble_eq_true rfl, inX3, w_1_215⟩
theorem fwX3_32 : o_FW "OddCancel$Plan" 32 3 2 .int := ⟨_, TX3, _, tyX3, rfl, Nat.le_of_ble_eq_true rfl, inX3, w_1_215, tyX3_ok, nmX3, rfl, rfl⟩
theorem flX4_9 : o_FL "OddCancel$Reader" 9 4 0 := ⟨_, TX4, _, rfl, Nat.le_of_ble_eq_true rfl, inX4, w_2_10⟩
theorem fwX4_15 : o_FW "OddCancel$Reader" 15 4 2 .int := ⟨_, TX4, _, tyX4, rfl, Nat.le_of_ble_eq_true rfl, inX4, w_2_13, tyX4_ok, nmX4, rfl, rfl⟩
theorem fwX4_19 : o_FW "OddCancel$Reader" 19 4 3 .int := ⟨_, TX4, _, tyX4, rfl, Nat.le_of_ble_eq_true rfl, inX4, w_2_15, tyX4_ok, nmX4, rfl, rfl⟩
theorem flX4_22 : o_FL "OddCancel$Reader" 22 4 1 := ⟨_, TX4, _, rfl, Nat.le_of_ble_eq_true rfl, inX4, w_2_11⟩
theorem fwX4_22 : o_FW "OddCancel$Reader" 22 4 1 .int := ⟨_, TX4, _, tyX4, rfl, Nat.le_of_ble_eq_true rfl, inX4, w_2_11, tyX4_ok, nmX4, rfl, rfl⟩
theorem flX4_31 : o_FL "OddCancel$Reader" 31 4 4 := ⟨_, TX4, _, rfl, Nat.le_of_ble_eq_true rfl, inX4, w_2_17⟩
theorem fwX4_31 : o_FW "OddCancel$Reader" 31 4 4 .int := ⟨_, TX4, _, tyX4, rfl, Nat.le_of_ble_eq_true rfl, inX4, w_2_17, tyX4_ok, nmX4, rfl, rfl⟩
theorem flX4_34 : o_FL "OddCancel$Reader" 34 4 5 := ⟨_, TX4, _, rfl, Nat.le_of_ble_eq_true rfl, inX4, w_2_18⟩
theorem fwX4_34 : o_FW "OddCancel$Reader" 34 4 5 .int := ⟨_, TX4, _, tyX4, rfl, Nat.le_of_ble_eq_true rfl, inX4, w_2_18, tyX4_ok, nmX4, rfl, rfl⟩
theorem flX4_40 : o_FL "OddCancel$Reader" 40 4 6 := ⟨_, TX4, _, rfl, Nat.le_of_ble_eq_true rfl, inX4, w_2_19⟩
theorem fwX4_40 : o_FW "OddCancel$Reader" 40 4 6 .int := ⟨_, TX4, _, tyX4, rfl, Nat.le_of_ble_eq_true rfl, inX4, w_2_19, tyX4_ok, nmX4, rfl, rfl⟩
theorem flX4_43 : o_FL "OddCancel$Reader" 43 4 8 := ⟨_, TX4, _, rfl, Nat.le_of_ble_eq_true rfl, inX4, w_2_25⟩
theorem fwX4_43 : o_FW "OddCancel$Reader" 43 4 8 .int := ⟨_, TX4, _, tyX4, rfl, Nat.le_of_ble_eq_true rfl, inX4, w_2_25, tyX4_ok, nmX4, rfl, rfl⟩
theorem flX4_46 : o_FL "OddCancel$Reader" 46 4 7 := ⟨_, TX4, _, rfl, Nat.le_of_ble_eq_true rfl, inX4, w_2_22⟩
theorem fwX4_46 : o_FW "OddCancel$Reader" 46 4 7 .int := ⟨_, TX4, _, tyX4, rfl, Nat.le_of_ble_eq_true rfl, inX4, w_2_22, tyX4_ok, nmX4, rfl, rfl⟩
theorem flX4_59 : o_FL "OddCancel$Reader" 59 4 11 := ⟨_, TX4, _, rfl, Nat.le_of_ble_eq_true rfl, inX4, w_2_29⟩
theorem fwX4_59 : o_FW "OddCancel$Reader" 59 4 11 .int := ⟨_, TX4, _, tyX4, rfl, Nat.le_of_ble_eq_true rfl, inX4, w_2_29, tyX4_ok, nmX4, rfl, rfl⟩
theorem flX4_62 : o_FL "OddCancel$Reader" 62 4 9 := ⟨_, TX4, _, rfl, Nat.le_of_ble_eq_true rfl, inX4, w_2_27⟩
theorem fwX4_62 : o_FW "OddCancel$Reader" 62 4 9 .long := ⟨_, TX4, _, tyX4, rfl, Nat.le_of_ble_eq_true rfl, inX4, w_2_27, tyX4_ok, nmX4, rfl, rfl⟩
theorem flX4_81 : o_FL "OddCancel$Reader" 81 4 10 := ⟨_, TX4, _, rfl, Nat.le_of_ble_eq_true rfl, inX4, w_2_28⟩
theorem fwX4_81 : o_FW "OddCancel$Reader" 81 4 10 .int := ⟨_, TX4, _, tyX4, rfl, Nat.le_of_ble_eq_true rfl, inX4, w_2_28, tyX4_ok, nmX4, rfl, rfl⟩
theorem flX5_12 : o_FL "OddCancel$Rows" 12 5 0 := ⟨_, TX5, _, rfl, Nat.le_of_ble_eq_true rfl, inX5, w_2_166⟩
theorem flX5_18 : o_FL "OddCancel$Rows" 18 5 1 := ⟨_, TX5, _, rfl, Nat.le_of_ble_eq_true rfl, inX5, w_2_168⟩
theorem flX5_28 : o_FL "OddCancel$Rows" 28 1 0 := ⟨_, TX1, _, rfl, Nat.le_of_ble_eq_true rfl, inX1, w_1_70⟩
theorem fwX5_28 : o_FW "OddCancel$Rows" 28 1 0 .int := ⟨_, TX1, _, tyX1, rfl, Nat.le_of_ble_eq_true rfl, inX1, w_1_70, tyX1_ok, nmX1, rfl, rfl⟩
theorem flX5_32 : o_FL "OddCancel$Rows" 32 7 3 := ⟨_, TX7, _, rfl, Nat.le_of_ble_eq_true rfl, inX7, w_1_44⟩
theorem flX5_37 : o_FL "OddCancel$Rows" 37 1 5 := ⟨_, TX1, _, rfl, Nat.le_of_ble_eq_true rfl, inX1, w_1_91⟩
theorem flX5_45 : o_FL "OddCancel$Rows" 45 8 2 := ⟨_, TX8, _, rfl, Nat.le_of_ble_eq_true rfl, inX8, w_1_117⟩
theorem flX5_50 : o_FL "OddCancel$Rows" 50 8 11 := ⟨_, TX8, _, rfl, Nat.le_of_ble_eq_true rfl, inX8, w_1_143⟩
theorem flX5_61 : o_FL "OddCancel$Rows" 61 5 2 := ⟨_, TX5, _, rfl, Nat.le_of_ble_eq_true rfl, inX5, w_2_169⟩
theorem fwX5_61 : o_FW "OddCancel$Rows" 61 5 2 .int := ⟨_, TX5, _, tyX5, rfl, Nat.le_of_ble_eq_true rfl, inX5, w_2_169, tyX5_ok, nmX5, rfl, rfl⟩
theorem flX5_64 : o_FL "OddCancel$Rows" 64 5 3 := ⟨_, TX5, _, rfl, Nat.le_of_ble_eq_true rfl, inX5, w_2_170⟩
theorem fwX5_64 : o_FW "OddCancel$Rows" 64 5 3 .int := ⟨_, TX5, _, tyX5, rfl, Nat.le_of_ble_eq_true rfl, inX5, w_2_170, tyX5_ok, nmX5, rfl, rfl⟩
theorem flX6_9 : o_FL "OddCancel$Trails" 9 6 0 := ⟨_, TX6, _, rfl, Nat.le_of_ble_eq_true rfl, inX6, w_2_138⟩
theorem flX6_15 : o_FL "OddCancel$Trails" 15 6 4 := ⟨_, TX6, _, rfl, Nat.le_of_ble_eq_true rfl, inX6, w_2_146⟩
theorem flX6_24 : o_FL "OddCancel$Trails" 24 8 2 := ⟨_, TX8, _, rfl, Nat.le_of_ble_eq_true rfl, inX8, w_1_116⟩
theorem flX6_37 : o_FL "OddCancel$Trails" 37 8 11 := ⟨_, TX8, _, rfl, Nat.le_of_ble_eq_true rfl, inX8, w_1_142⟩
theorem flX6_44 : o_FL "OddCancel$Trails" 44 6 1 := ⟨_, TX6, _, rfl, Nat.le_of_ble_eq_true rfl, inX6, w_2_140⟩
theorem fwX6_44 : o_FW "OddCancel$Trails" 44 6 1 .int := ⟨_, TX6, _, tyX6, rfl, Nat.le_of_ble_eq_true rfl, inX6, w_2_140, tyX6_ok, nmX6, rfl, rfl⟩
theorem flX6_47 : o_FL "OddCancel$Trails" 47 6 2 := ⟨_, TX6, _, rfl, Nat.le_of_ble_eq_true rfl, inX6, w_2_142⟩
theorem fwX6_47 : o_FW "OddCancel$Trails" 47 6 2 .int := ⟨_, TX6, _, tyX6, rfl, Nat.le_of_ble_eq_true rfl, inX6, w_2_142, tyX6_ok, nmX6, rfl, rfl⟩
theorem flX6_50 : o_FL "OddCancel$Trails" 50 6 3 := ⟨_, TX6, _, rfl, Nat.le_of_ble_eq_true rfl, inX6, w_2_144⟩
theorem fwX6_50 : o_FW "OddCancel$Trails" 50 6 3 .int := ⟨_, TX6, _, tyX6, rfl, Nat.le_of_ble_eq_true rfl, inX6, w_2_144, tyX6_ok, nmX6, rfl, rfl⟩
theorem flX6_57 : o_FL "OddCancel$Trails" 57 8 13 := ⟨_, TX8, _, rfl, Nat.le_of_ble_eq_true rfl, inX8, w_1_151⟩
theorem flX6_60 : o_FL "OddCancel$Trails" 60 8 14 := ⟨_, TX8, _, rfl, Nat.le_of_ble_eq_true rfl, inX8, w_1_154⟩
theorem flX7_9 : o_FL "OddCancel$Tray" 9 7 3 := ⟨_, TX7, _, rfl, Nat.le_of_ble_eq_true rfl, inX7, w_1_43⟩
theorem fwX7_15 : o_FW "OddCancel$Tray" 15 7 0 .boolean := ⟨_, TX7, _, tyX7, rfl, Nat.le_of_ble_eq_true rfl, inX7, w_1_37, tyX7_ok, nmX7, rfl, rfl⟩
theorem flX7_19 : o_FL "OddCancel$Tray" 19 7 1 := ⟨_, TX7, _, rfl, Nat.le_of_ble_eq_true rfl, inX7, w_1_39⟩
theorem fwX7_19 : o_FW "OddCancel$Tray" 19 7 1 .int := ⟨_, TX7, _, tyX7, rfl, Nat.le_of_ble_eq_true rfl, inX7, w_1_39, tyX7_ok, nmX7, rfl, rfl⟩
theorem fwX7_23 : o_FW "OddCancel$Tray" 23 7 2 .int := ⟨_, TX7, _, tyX7, rfl, Nat.le_of_ble_eq_true rfl, inX7, w_1_41, tyX7_ok, nmX7, rfl, rfl⟩
theorem flX8_9 : o_FL "OddCancel$Valley" 9 8 4 := ⟨_, TX8, _, rfl, Nat.le_of_ble_eq_true rfl, inX8, w_1_123⟩
theorem fwX8_9 : o_FW "OddCancel$Valley" 9 8 4 .int := ⟨_, TX8, _, tyX8, rfl, Nat.le_of_ble_eq_true rfl, inX8, w_1_123, tyX8_ok, nmX8, rfl, rfl⟩
theorem flX8_15 : o_FL "OddCancel$Valley" 15 8 9 := ⟨_, TX8, _, rfl, Nat.le_of_ble_eq_true rfl, inX8, w_1_136⟩
theorem flX8_19 : o_FL "OddCancel$Valley" 19 8 10 := ⟨_, TX8, _, rfl, Nat.le_of_ble_eq_true rfl, inX8, w_1_139⟩
theorem flX8_22 : o_FL "OddCancel$Valley" 22 8 11 := ⟨_, TX8, _, rfl, Nat.le_of_ble_eq_true rfl, inX8, w_1_141⟩
theorem flX8_25 : o_FL "OddCancel$Valley" 25 8 12 := ⟨_, TX8, _, rfl, Nat.le_of_ble_eq_true rfl, inX8, w_1_147⟩
theorem flX8_28 : o_FL "OddCancel$Valley" 28 8 13 := ⟨_, TX8, _, rfl, Nat.le_of_ble_eq_true rfl, inX8, w_1_150⟩
theorem flX8_31 : o_FL "OddCancel$Valley" 31 8 14 := ⟨_, TX8, _, rfl, Nat.le_of_ble_eq_true rfl, inX8, w_1_153⟩
theorem flX8_37 : o_FL "OddCancel$Valley" 37 8 15 := ⟨_, TX8, _, rfl, Nat.le_of_ble_eq_true rfl, inX8, w_1_156⟩
theorem flX8_41 : o_FL "OddCancel$Valley" 41 8 16 := ⟨_, TX8, _, rfl, Nat.le_of_ble_eq_true rfl, inX8, w_1_161⟩
theorem flX8_44 : o_FL "OddCancel$Valley" 44 8 17 := ⟨_, TX8, _, rfl, Nat.le_of_ble_eq_true rfl, inX8, w_1_164⟩
theorem flX8_48 : o_FL "OddCancel$Valley" 48 8 0 := ⟨_, TX8, _, rfl, Nat.le_of_ble_eq_true rfl, inX8, w_1_109⟩
theorem fwX8_48 : o_FW "OddCancel$Valley" 48 8 0 .int := ⟨_, TX8, _, tyX8, rfl, Nat.le_of_ble_eq_true rfl, inX8, w_1_109, tyX8_ok, nmX8, rfl, rfl⟩
theorem flX8_51 : o_FL "OddCancel$Valley" 51 8 1 := ⟨_, TX8, _, rfl, Nat.le_of_ble_eq_true rfl, inX8, w_1_112⟩
theorem fwX8_51 : o_FW "OddCancel$Valley" 51 8 1 .int := ⟨_, TX8, _, tyX8, rfl, Nat.le_of_ble_eq_true rfl, inX8, w_1_112, tyX8_ok, nmX8, rfl, rfl⟩
theorem flX8_54 : o_FL "OddCancel$Valley" 54 8 2 := ⟨_, TX8, _, rfl, Nat.le_of_ble_eq_true rfl, inX8, w_1_115⟩
theorem fwX8_54 : o_FW "OddCancel$Valley" 54 8 2 .int := ⟨_, TX8, _, tyX8, rfl, Nat.le_of_ble_eq_true rfl, inX8, w_1_115, tyX8_ok, nmX8, rfl, rfl⟩
theorem flX8_57 : o_FL "OddCancel$Valley" 57 8 3 := ⟨_, TX8, _, rfl, Nat.le_of_ble_eq_true rfl, inX8, w_1_120⟩
theorem fwX8_57 : o_FW "OddCancel$Valley" 57 8 3 .int := ⟨_, TX8, _, tyX8, rfl, Nat.le_of_ble_eq_true rfl, inX8, w_1_120, tyX8_ok, nmX8, rfl, rfl⟩
theorem flX8_60 : o_FL "OddCancel$Valley" 60 8 5 := ⟨_, TX8, _, rfl, Nat.le_of_ble_eq_true rfl, inX8, w_1_127⟩
theorem fwX8_60 : o_FW "OddCancel$Valley" 60 8 5 .int := ⟨_, TX8, _, tyX8, rfl, Nat.le_of_ble_eq_true rfl, inX8, w_1_127, tyX8_ok, nmX8, rfl, rfl⟩
theorem flX8_63 : o_FL "OddCancel$Valley" 63 8 6 := ⟨_, TX8, _, rfl, Nat.le_of_ble_eq_true rfl, inX8, w_1_129⟩
theorem fwX8_63 : o_FW "OddCancel$Valley" 63 8 6 .boolean := ⟨_, TX8, _, tyX8, rfl, Nat.le_of_ble_eq_true rfl, inX8, w_1_129, tyX8_ok, nmX8, rfl, rfl⟩
theorem flX8_67 : o_FL "OddCancel$Valley" 67 8 7 := ⟨_, TX8, _, rfl, Nat.le_of_ble_eq_true rfl, inX8, w_1_132⟩
theorem fwX8_67 : o_FW "OddCancel$Valley" 67 8 7 .int := ⟨_, TX8, _, tyX8, rfl, Nat.le_of_ble_eq_true rfl, inX8, w_1_132, tyX8_ok, nmX8, rfl, rfl⟩
theorem flX8_70 : o_FL "OddCancel$Valley" 70 8 8 := ⟨_, TX8, _, rfl, Nat.le_of_ble_eq_true rfl, inX8, w_1_134⟩
theorem fwX8_70 : o_FW "OddCancel$Valley" 70 8 8 .int := ⟨_, TX8, _, tyX8, rfl, Nat.le_of_ble_eq_true rfl, inX8, w_1_134, tyX8_ok, nmX8, rfl, rfl⟩
theorem flX8_79 : o_FL "OddCancel$Valley" 79 1 0 := ⟨_, TX1, _, rfl, Nat.le_of_ble_eq_true rfl, inX1, w_1_71⟩
theorem fwX8_79 : o_FW "OddCancel$Valley" 79 1 0 .int := ⟨_, TX1, _, tyX1, rfl, Nat.le_of_ble_eq_true rfl, inX1, w_1_71, tyX1_ok, nmX1, rfl, rfl⟩
theorem flX8_138 : o_FL "OddCancel$Valley" 138 1 2 := ⟨_, TX1, _, rfl, Nat.le_of_ble_eq_true rfl, inX1, w_1_80⟩
theorem flX8_141 : o_FL "OddCancel$Valley" 141 1 1 := ⟨_, TX1, _, rfl, Nat.le_of_ble_eq_true rfl, inX1, w_1_76⟩
theorem flX8_144 : o_FL "OddCancel$Valley" 144 1 3 := ⟨_, TX1, _, rfl, Nat.le_of_ble_eq_true rfl, inX1, w_1_85⟩
theorem flX8_147 : o_FL "OddCancel$Valley" 147 1 4 := ⟨_, TX1, _, rfl, Nat.le_of_ble_eq_true rfl, inX1, w_1_88⟩
theorem flX8_160 : o_FL "OddCancel$Valley" 160 1 5 := ⟨_, TX1, _, rfl, Nat.le_of_ble_eq_true rfl, inX1, w_1_93⟩
theorem flX9_9 : o_FL "OddCancel$ValleyText" 9 9 0 := ⟨_, TX9, _, rfl, Nat.le_of_ble_eq_true rfl, inX9, w_2_63⟩
theorem flX9_15 : o_FL "OddCancel$ValleyText" 15 9 1 := ⟨_, TX9, _, rfl, Nat.le_of_ble_eq_true rfl, inX9, w_2_64⟩
theorem flX9_30 : o_FL "OddCancel$ValleyText" 30 9 2 := ⟨_, TX9, _, rfl, Nat.le_of_ble_eq_true rfl, inX9, w_2_65⟩
theorem fwX9_30 : o_FW "OddCancel$ValleyText" 30 9 2 .boolean := ⟨_, TX9, _, tyX9, rfl, Nat.le_of_ble_eq_true rfl, inX9, w_2_65, tyX9_ok, nmX9, rfl, rfl⟩
theorem flX9_34 : o_FL "OddCancel$ValleyText" 34 4 7 := ⟨_, TX4, _, rfl, Nat.le_of_ble_eq_true rfl, inX4, w_2_20⟩
theorem flX9_38 : o_FL "OddCancel$ValleyText" 38 4 8 := ⟨_, TX4, _, rfl, Nat.le_of_ble_eq_true rfl, inX4, w_2_23⟩
theorem flX9_70 : o_FL "OddCancel$ValleyText" 70 4 9 := ⟨_, TX4, _, rfl, Nat.le_of_ble_eq_true rfl, inX4, w_2_26⟩
theorem flX9_78 : o_FL "OddCancel$ValleyText" 78 8 17 := ⟨_, TX8, _, rfl, Nat.le_of_ble_eq_true rfl, inX8, w_1_165⟩
theorem flX9_89 : o_FL "OddCancel$ValleyText" 89 8 0 := ⟨_, TX8, _, rfl, Nat.le_of_ble_eq_true rfl, inX8, w_1_110⟩
theorem fwX9_89 : o_FW "OddCancel$ValleyText" 89 8 0 .int := ⟨_, TX8, _, tyX8, rfl, Nat.le_of_ble_eq_true rfl, inX8, w_1_110, tyX8_ok, nmX8, rfl, rfl⟩
theorem flX9_99 : o_FL "OddCancel$ValleyText" 99 8 9 := ⟨_, TX8, _, rfl, Nat.le_of_ble_eq_true rfl, inX8, w_1_137⟩
theorem flX9_106 : o_FL "OddCancel$ValleyText" 106 8 1 := ⟨_, TX8, _, rfl, Nat.le_of_ble_eq_true rfl, inX8, w_1_113⟩
theorem fwX9_106 : o_FW "OddCancel$ValleyText" 106 8 1 .int := ⟨_, TX8, _, tyX8, rfl, Nat.le_of_ble_eq_true rfl, inX8, w_1_113, tyX8_ok, nmX8, rfl, rfl⟩
theorem flX9_109 : o_FL "OddCancel$ValleyText" 109 8 2 := ⟨_, TX8, _, rfl, Nat.le_of_ble_eq_true rfl, inX8, w_1_118⟩
theorem fwX9_109 : o_FW "OddCancel$ValleyText" 109 8 2 .int := ⟨_, TX8, _, tyX8, rfl, Nat.le_of_ble_eq_true rfl, inX8, w_1_118, tyX8_ok, nmX8, rfl, rfl⟩
theorem flX9_119 : o_FL "OddCancel$ValleyText" 119 8 11 := ⟨_, TX8, _, rfl, Nat.le_of_ble_eq_true rfl, inX8, w_1_145⟩
theorem flX9_122 : o_FL "OddCancel$ValleyText" 122 8 3 := ⟨_, TX8, _, rfl, Nat.le_of_ble_eq_true rfl, inX8, w_1_121⟩
theorem fwX9_122 : o_FW "OddCancel$ValleyText" 122 8 3 .int := ⟨_, TX8, _, tyX8, rfl, Nat.le_of_ble_eq_true rfl, inX8, w_1_121, tyX8_ok, nmX8, rfl, rfl⟩
theorem flX9_125 : o_FL "OddCancel$ValleyText" 125 8 12 := ⟨_, TX8, _, rfl, Nat.le_of_ble_eq_true rfl, inX8, w_1_148⟩
theorem flX9_139 : o_FL "OddCancel$ValleyText" 139 8 15 := ⟨_, TX8, _, rfl, Nat.le_of_ble_eq_true rfl, inX8, w_1_159⟩
theorem fwX9_152 : o_FW "OddCancel$ValleyText" 152 8 4 .int := ⟨_, TX8, _, tyX8, rfl, Nat.le_of_ble_eq_true rfl, inX8, w_1_125, tyX8_ok, nmX8, rfl, rfl⟩
theorem flX10_9 : o_FL "OddCancel$WeeksText" 9 10 3 := ⟨_, TX10, _, rfl, Nat.le_of_ble_eq_true rfl, inX10, w_2_82⟩
theorem flX10_15 : o_FL "OddCancel$WeeksText" 15 10 0 := ⟨_, TX10, _, rfl, Nat.le_of_ble_eq_true rfl, inX10, w_2_79⟩
theorem flX10_19 : o_FL "OddCancel$WeeksText" 19 10 1 := ⟨_, TX10, _, rfl, Nat.le_of_ble_eq_true rfl, inX10, w_2_80⟩
theorem flX10_23 : o_FL "OddCancel$WeeksText" 23 10 2 := ⟨_, TX10, _, rfl, Nat.le_of_ble_eq_true rfl, inX10, w_2_81⟩
theorem fwX10_38 : o_FW "OddCancel$WeeksText" 38 3 0 .boolean := ⟨_, TX3, _, tyX3, rfl, Nat.le_of_ble_eq_true rfl, inX3, w_1_210, tyX3_ok, nmX3, rfl, rfl⟩
theorem flX10_42 : o_FL "OddCancel$WeeksText" 42 10 4 := ⟨_, TX10, _, rfl, Nat.le_of_ble_eq_true rfl, inX10, w_2_83⟩
theorem fwX10_42 : o_FW "OddCancel$WeeksText" 42 10 4 .int := ⟨_, TX10, _, tyX10, rfl, Nat.le_of_ble_eq_true rfl, inX10, w_2_83, tyX10_ok, nmX10, rfl, rfl⟩
theorem flX10_46 : o_FL "OddCancel$WeeksText" 46 4 7 := ⟨_, TX4, _, rfl, Nat.le_of_ble_eq_true rfl, inX4, w_2_21⟩
theorem flX10_49 : o_FL "OddCancel$WeeksText" 49 4 8 := ⟨_, TX4, _, rfl, Nat.le_of_ble_eq_true rfl, inX4, w_2_24⟩
theorem flX10_69 : o_FL "OddCancel$WeeksText" 69 3 6 := ⟨_, TX3, _, rfl, Nat.le_of_ble_eq_true rfl, inX3, w_1_226⟩
theorem flX10_72 : o_FL "OddCancel$WeeksText" 72 3 2 := ⟨_, TX3, _, rfl, Nat.le_of_ble_eq_true rfl, inX3, w_1_217⟩
theorem flX10_85 : o_FL "OddCancel$WeeksText" 85 3 1 := ⟨_, TX3, _, rfl, Nat.le_of_ble_eq_true rfl, inX3, w_1_213⟩
theorem fwX10_85 : o_FW "OddCancel$WeeksText" 85 3 1 .int := ⟨_, TX3, _, tyX3, rfl, Nat.le_of_ble_eq_true rfl, inX3, w_1_213, tyX3_ok, nmX3, rfl, rfl⟩
theorem flX10_106 : o_FL "OddCancel$WeeksText" 106 4 11 := ⟨_, TX4, _, rfl, Nat.le_of_ble_eq_true rfl, inX4, w_2_30⟩
theorem flX12_7 : o_FL "OddCancelModel" 7 12 0 := ⟨_, TX12, _, rfl, Nat.le_of_ble_eq_true rfl, inX12, w_6_116⟩
theorem flX12_13 : o_FL "OddCancelModel" 13 12 1 := ⟨_, TX12, _, rfl, Nat.le_of_ble_eq_true rfl, inX12, w_6_117⟩
theorem flX12_17 : o_FL "OddCancelModel" 17 12 4 := ⟨_, TX12, _, rfl, Nat.le_of_ble_eq_true rfl, inX12, w_6_120⟩
theorem fwX12_17 : o_FW "OddCancelModel" 17 12 4 .long := ⟨_, TX12, _, tyX12, rfl, Nat.le_of_ble_eq_true rfl, inX12, w_6_120, tyX12_ok, nmX12, rfl, rfl⟩
theorem flX12_21 : o_FL "OddCancelModel" 21 12 5 := ⟨_, TX12, _, rfl, Nat.le_of_ble_eq_true rfl, inX12, w_6_121⟩
theorem flX12_24 : o_FL "OddCancelModel" 24 12 6 := ⟨_, TX12, _, rfl, Nat.le_of_ble_eq_true rfl, inX12, w_6_122⟩
theorem flX12_27 : o_FL "OddCancelModel" 27 12 7 := ⟨_, TX12, _, rfl, Nat.le_of_ble_eq_true rfl, inX12, w_6_123⟩
theorem flX12_30 : o_FL "OddCancelModel" 30 12 8 := ⟨_, TX12, _, rfl, Nat.le_of_ble_eq_true rfl, inX12, w_6_124⟩
theorem flX12_34 : o_FL "OddCancelModel" 34 12 9 := ⟨_, TX12, _, rfl, Nat.le_of_ble_eq_true rfl, inX12, w_6_125⟩
theorem flX12_37 : o_FL "OddCancelModel" 37 12 16 := ⟨_, TX12, _, rfl, Nat.le_of_ble_eq_true rfl, inX12, w_6_132⟩
theorem fwX12_37 : o_FW "OddCancelModel" 37 12 16 .int := ⟨_, TX12, _, tyX12, rfl, Nat.le_of_ble_eq_true rfl, inX12, w_6_132, tyX12_ok, nmX12, rfl, rfl⟩
theorem flX12_41 : o_FL "OddCancelModel" 41 12 17 := ⟨_, TX12, _, rfl, Nat.le_of_ble_eq_true rfl, inX12, w_6_133⟩
theorem fwX12_41 : o_FW "OddCancelModel" 41 12 17 .int := ⟨_, TX12, _, tyX12, rfl, Nat.le_of_ble_eq_true rfl, inX12, w_6_133, tyX12_ok, nmX12, rfl, rfl⟩
theorem flX12_44 : o_FL "OddCancelModel" 44 12 21 := ⟨_, TX12, _, rfl, Nat.le_of_ble_eq_true rfl, inX12, w_6_137⟩
theorem flX12_47 : o_FL "OddCancelModel" 47 12 24 := ⟨_, TX12, _, rfl, Nat.le_of_ble_eq_true rfl, inX12, w_6_140⟩
theorem flX12_50 : o_FL "OddCancelModel" 50 12 25 := ⟨_, TX12, _, rfl, Nat.le_of_ble_eq_true rfl, inX12, w_6_141⟩
theorem flX12_53 : o_FL "OddCancelModel" 53 12 26 := ⟨_, TX12, _, rfl, Nat.le_of_ble_eq_true rfl, inX12, w_6_142⟩
theorem flX12_56 : o_FL "OddCancelModel" 56 12 27 := ⟨_, TX12, _, rfl, Nat.le_of_ble_eq_true rfl, inX12, w_6_143⟩
theorem flX12_59 : o_FL "OddCancelModel" 59 12 28 := ⟨_, TX12, _, rfl, Nat.le_of_ble_eq_true rfl, inX12, w_6_144⟩
theorem flX12_62 : o_FL "OddCancelModel" 62 12 29 := ⟨_, TX12, _, rfl, Nat.le_of_ble_eq_true rfl, inX12, w_6_145⟩
theorem flX12_65 : o_FL "OddCancelModel" 65 12 30 := ⟨_, TX12, _, rfl, Nat.le_of_ble_eq_true rfl, inX12, w_6_146⟩
theorem flX12_68 : o_FL "OddCancelModel" 68 12 34 := ⟨_, TX12, _, rfl, Nat.le_of_ble_eq_true rfl, inX12, w_6_150⟩
theorem flX12_71 : o_FL "OddCancelModel" 71 12 35 := ⟨_, TX12, _, rfl, Nat.le_of_ble_eq_true rfl, inX12, w_6_151⟩
theorem flX12_74 : o_FL "OddCancelModel" 74 12 36 := ⟨_, TX12, _, rfl, Nat.le_of_ble_eq_true rfl, inX12, w_6_152⟩
theorem flX12_81 : o_FL "OddCancelModel" 81 12 2 := ⟨_, TX12, _, rfl, Nat.le_of_ble_eq_true rfl, inX12, w_6_118⟩
theorem fwX12_81 : o_FW "OddCancelModel" 81 12 2 .int := ⟨_, TX12, _, tyX12, rfl, Nat.le_of_ble_eq_true rfl, inX12, w_6_118, tyX12_ok, nmX12, rfl, rfl⟩
theorem flX12_84 : o_FL "OddCancelModel" 84 12 3 := ⟨_, TX12, _, rfl, Nat.le_of_ble_eq_true rfl, inX12, w_6_119⟩
theorem fwX12_84 : o_FW "OddCancelModel" 84 12 3 .long := ⟨_, TX12, _, tyX12, rfl, Nat.le_of_ble_eq_true rfl, inX12, w_6_119, tyX12_ok, nmX12, rfl, rfl⟩
theorem flX12_111 : o_FL "OddCancelModel" 111 12 10 := ⟨_, TX12, _, rfl, Nat.le_of_ble_eq_true rfl, inX12, w_6_126⟩
theorem fwX12_111 : o_FW "OddCancelModel" 111 12 10 .int := ⟨_, TX12, _, tyX12, rfl, Nat.le_of_ble_eq_true rfl, inX12, w_6_126, tyX12_ok, nmX12, rfl, rfl⟩
theorem flX12_117 : o_FL "OddCancelModel" 117 12 11 := ⟨_, TX12, _, rfl, Nat.le_of_ble_eq_true rfl, inX12, w_6_127⟩
theorem fwX12_117 : o_FW "OddCancelModel" 117 12 11 .int := ⟨_, TX12, _, tyX12, rfl, Nat.le_of_ble_eq_true rfl, inX12, w_6_127, tyX12_ok, nmX12, rfl, rfl⟩
theorem flX12_120 : o_FL "OddCancelModel" 120 12 14 := ⟨_, TX12, _, rfl, Nat.le_of_ble_eq_true rfl, inX12, w_6_130⟩
theorem fwX12_120 : o_FW "OddCancelModel" 120 12 14 .int := ⟨_, TX12, _, tyX12, rfl, Nat.le_of_ble_eq_true rfl, inX12, w_6_130, tyX12_ok, nmX12, rfl, rfl⟩
theorem flX12_126 : o_FL "OddCancelModel" 126 12 13 := ⟨_, TX12, _, rfl, Nat.le_of_ble_eq_true rfl, inX12, w_6_129⟩
theorem fwX12_126 : o_FW "OddCancelModel" 126 12 13 .int := ⟨_, TX12, _, tyX12, rfl, Nat.le_of_ble_eq_true rfl, inX12, w_6_129, tyX12_ok, nmX12, rfl, rfl⟩
theorem flX12_129 : o_FL "OddCancelModel" 129 12 15 := ⟨_, TX12, _, rfl, Nat.le_of_ble_eq_true rfl, inX12, w_6_131⟩
theorem fwX12_129 : o_FW "OddCancelModel" 129 12 15 .int := ⟨_, TX12, _, tyX12, rfl, Nat.le_of_ble_eq_true rfl, inX12, w_6_131, tyX12_ok, nmX12, rfl, rfl⟩
theorem flX12_132 : o_FL "OddCancelModel" 132 12 12 := ⟨_, TX12, _, rfl, Nat.le_of_ble_eq_true rfl, inX12, w_6_128⟩
theorem fwX12_132 : o_FW "OddCancelModel" 132 12 12 .int := ⟨_, TX12, _, tyX12, rfl, Nat.le_of_ble_eq_true rfl, inX12, w_6_128, tyX12_ok, nmX12, rfl, rfl⟩
theorem flX12_157 : o_FL "OddCancelModel" 157 12 18 := ⟨_, TX12, _, rfl, Nat.le_of_ble_eq_true rfl, inX12, w_6_134⟩
theorem fwX12_157 : o_FW "OddCancelModel" 157 12 18 .int := ⟨_, TX12, _, tyX12, rfl, Nat.le_of_ble_eq_true rfl, inX12, w_6_134, tyX12_ok, nmX12, rfl, rfl⟩
theorem fwX12_160 : o_FW "OddCancelModel" 160 12 19 .int := ⟨_, TX12, _, tyX12, rfl, Nat.le_of_ble_eq_true rfl, inX12, w_6_135, tyX12_ok, nmX12, rfl, rfl⟩
theorem flX12_235 : o_FL "OddCancelModel" 235 12 20 := ⟨_, TX12, _, rfl, Nat.le_of_ble_eq_true rfl, inX12, w_6_136⟩
theorem fwX12_235 : o_FW "OddCancelModel" 235 12 20 .boolean := ⟨_, TX12, _, tyX12, rfl, Nat.le_of_ble_eq_true rfl, inX12, w_6_136, tyX12_ok, nmX12, rfl, rfl⟩
theorem flX12_257 : o_FL "OddCancelModel" 257 12 22 := ⟨_, TX12, _, rfl, Nat.le_of_ble_eq_true rfl, inX12, w_6_138⟩
theorem fwX12_257 : o_FW "OddCancelModel" 257 12 22 .int := ⟨_, TX12, _, tyX12, rfl, Nat.le_of_ble_eq_true rfl, inX12, w_6_138, tyX12_ok, nmX12, rfl, rfl⟩
theorem flX12_260 : o_FL "OddCancelModel" 260 12 23 := ⟨_, TX12, _, rfl, Nat.le_of_ble_eq_true rfl, inX12, w_6_139⟩
theorem fwX12_260 : o_FW "OddCancelModel" 260 12 23 .int := ⟨_, TX12, _, tyX12, rfl, Nat.le_of_ble_eq_true rfl, inX12, w_6_139, tyX12_ok, nmX12, rfl, rfl⟩
theorem flX12_429 : o_FL "OddCancelModel" 429 12 31 := ⟨_, TX12, _, rfl, Nat.le_of_ble_eq_true rfl, inX12, w_6_147⟩
theorem fwX12_429 : o_FW "OddCancelModel" 429 12 31 .int := ⟨_, TX12, _, tyX12, rfl, Nat.le_of_ble_eq_true rfl, inX12, w_6_147, tyX12_ok, nmX12, rfl, rfl⟩
theorem flX12_449 : o_FL "OddCancelModel" 449 12 32 := ⟨_, TX12, _, rfl, Nat.le_of_ble_eq_true rfl, inX12, w_6_148⟩
theorem fwX12_449 : o_FW "OddCancelModel" 449 12 32 .int := ⟨_, TX12, _, tyX12, rfl, Nat.le_of_ble_eq_true rfl, inX12, w_6_148, tyX12_ok, nmX12, rfl, rfl⟩
theorem flX12_468 : o_FL "OddCancelModel" 468 12 33 := ⟨_, TX12, _, rfl, Nat.le_of_ble_eq_true rfl, inX12, w_6_149⟩
theorem fwX12_468 : o_FW "OddCancelModel" 468 12 33 .int := ⟨_, TX12, _, tyX12, rfl, Nat.le_of_ble_eq_true rfl, inX12, w_6_149, tyX12_ok, nmX12, rfl, rfl⟩
theorem flX12_485 : o_FL "OddCancelModel" 485 12 37 := ⟨_, TX12, _, rfl, Nat.le_of_ble_eq_true rfl, inX12, w_6_153⟩
theorem fwX12_485 : o_FW "OddCancelModel" 485 12 37 .boolean := ⟨_, TX12, _, tyX12, rfl, Nat.le_of_ble_eq_true rfl, inX12, w_6_153, tyX12_ok, nmX12, rfl, rfl⟩
theorem flX12_490 : o_FL "OddCancelModel" 490 12 38 := ⟨_, TX12, _, rfl, Nat.le_of_ble_eq_true rfl, inX12, w_6_154⟩
theorem fwX12_490 : o_FW "OddCancelModel" 490 12 38 .int := ⟨_, TX12, _, tyX12, rfl, Nat.le_of_ble_eq_true rfl, inX12, w_6_154, tyX12_ok, nmX12, rfl, rfl⟩
