/-! method records and facts of links, printed by program -/
def md_X0_init : zMd := (yX0_init, cX0_init, 1, none, [])
def md_X0_copyFrom : zMd := (yX0_copyFrom, cX0_copyFrom, 2, none, [])
def md_X0_reasonAgainstPlace : zMd := (yX0_reasonAgainstPlace, cX0_reasonAgainstPlace, 4, some .int, [])
def md_X0_place : zMd := (yX0_place, cX0_place, 4, some .int, [])
def md_X0_placeByLot : zMd := (yX0_placeByLot, cX0_placeByLot, 8, some .int, [])
def md_X0_firstRowFor : zMd := (yX0_firstRowFor, cX0_firstRowFor, 4, some .int, [])
def md_X0_isForSale : zMd := (yX0_isForSale, cX0_isForSale, 2, some .boolean, [])
def md_X0_sell : zMd := (yX0_sell, cX0_sell, 2, some .int, [])
def md_X0_drawBalls : zMd := (yX0_drawBalls, cX0_drawBalls, 4, some .int, [])
def md_X0_reasonAgainstClaim : zMd := (yX0_reasonAgainstClaim, cX0_reasonAgainstClaim, 3, some .int, [])
def md_X0_isHeldByLastBall : zMd := (yX0_isHeldByLastBall, cX0_isHeldByLastBall, 4, some .boolean, [])
def md_X0_settleClaim : zMd := (yX0_settleClaim, cX0_settleClaim, 4, some .int, [])
def md_X0_prizeForEach : zMd := (yX0_prizeForEach, cX0_prizeForEach, 3, some .int, [])
def md_X0_payAndBeginAnew : zMd := (yX0_payAndBeginAnew, cX0_payAndBeginAnew, 5, some .int, [])
def md_X1_init : zMd := (yX1_init, cX1_init, 1, none, [])
def md_X1_copyFrom : zMd := (yX1_copyFrom, cX1_copyFrom, 2, none, [])
def md_X1_columnOf : zMd := (yX1_columnOf, cX1_columnOf, 1, some .int, [])
def md_X1_numberIn : zMd := (yX1_numberIn, cX1_numberIn, 3, some .int, [])
def md_X1_standsIn : zMd := (yX1_standsIn, cX1_standsIn, 3, some .boolean, [])
def md_X1_stand : zMd := (yX1_stand, cX1_stand, 3, none, [])
def md_X1_lift : zMd := (yX1_lift, cX1_lift, 2, none, [])
def md_X1_reasonAgainst : zMd := (yX1_reasonAgainst, cX1_reasonAgainst, 3, some .int, [])
def md_X1_breaksColumn : zMd := (yX1_breaksColumn, cX1_breaksColumn, 7, some .boolean, [])
def md_X1_rowSize : zMd := (yX1_rowSize, cX1_rowSize, 4, some .int, [])
def md_X1_cardSize : zMd := (yX1_cardSize, cX1_cardSize, 4, some .int, [])
def md_X1_isWhole : zMd := (yX1_isWhole, cX1_isWhole, 2, some .boolean, [])
def md_X1_wholeCards : zMd := (yX1_wholeCards, cX1_wholeCards, 3, some .int, [])
def md_X1_unmarkedInRow : zMd := (yX1_unmarkedInRow, cX1_unmarkedInRow, 5, some .int, [])
def md_X1_isUnmarked : zMd := (yX1_isUnmarked, cX1_isUnmarked, 2, some .boolean, [])
def md_X1_markedInCard : zMd := (yX1_markedInCard, cX1_markedInCard, 5, some .int, [])
def md_X1_isLine : zMd := (yX1_isLine, cX1_isLine, 3, some .boolean, [])
def md_X1_linesOf : zMd := (yX1_linesOf, cX1_linesOf, 5, some .int, [])
def md_X1_corner : zMd := (yX1_corner, cX1_corner, 7, some .int, [])
def md_X1_isCorner : zMd := (yX1_isCorner, cX1_isCorner, 3, some .boolean, [])
def md_X1_unmarkedOfGame : zMd := (yX1_unmarkedOfGame, cX1_unmarkedOfGame, 9, some .int, [])
def md_X1_unmarkedCorners : zMd := (yX1_unmarkedCorners, cX1_unmarkedCorners, 5, some .int, [])
def md_X1_onlyUnmarked : zMd := (yX1_onlyUnmarked, cX1_onlyUnmarked, 5, some .int, [])
def md_X1_firstUnmarkedCorner : zMd := (yX1_firstUnmarkedCorner, cX1_firstUnmarkedCorner, 4, some .int, [])
def md_X1_firstUnmarkedIn : zMd := (yX1_firstUnmarkedIn, cX1_firstUnmarkedIn, 4, some .int, [])
def md_X2_init : zMd := (yX2_init, cX2_init, 1, none, [])
def md_X2_copyFrom : zMd := (yX2_copyFrom, cX2_copyFrom, 2, none, [])
def md_X2_holdAll : zMd := (yX2_holdAll, cX2_holdAll, 2, none, [])
def md_X2_holdNumbersOutOf : zMd := (yX2_holdNumbersOutOf, cX2_holdNumbersOutOf, 3, none, [])
def md_X2_byLot : zMd := (yX2_byLot, cX2_byLot, 2, some .int, [])
def md_X2_takeOut : zMd := (yX2_takeOut, cX2_takeOut, 4, some .int, [])
def md_X3_init : zMd := (yX3_init, cX3_init, 1, none, [])
def md_X3_copyFrom : zMd := (yX3_copyFrom, cX3_copyFrom, 2, none, [])
def md_X3_begin : zMd := (yX3_begin, cX3_begin, 1, none, [])
def md_X3_isBought : zMd := (yX3_isBought, cX3_isBought, 2, some .boolean, [])
def md_X3_gamesWonBy : zMd := (yX3_gamesWonBy, cX3_gamesWonBy, 4, some .int, [])
def md_X3_lastDrawn : zMd := (yX3_lastDrawn, cX3_lastDrawn, 1, some .int, [])
def md_X3_tell : zMd := (yX3_tell, cX3_tell, 5, none, [])
def md_X4_init : zMd := (yX4_init, cX4_init, 1, none, [])
def md_X4_copyFrom : zMd := (yX4_copyFrom, cX4_copyFrom, 2, none, [])
def md_X4_takeIn : zMd := (yX4_takeIn, cX4_takeIn, 2, some .int, [])
def md_X4_closeEvening : zMd := (yX4_closeEvening, cX4_closeEvening, 2, none, [])
def md_X4_told : zMd := (yX4_told, cX4_told, 2, some .int, [])
def md_X5_init : zMd := (yX5_init, cX5_init, 1, none, [])
def md_X5_orderLength : zMd := (yX5_orderLength, cX5_orderLength, 1, some .int, [])
def md_X5_codeAt : zMd := (yX5_codeAt, cX5_codeAt, 2, some .int, [])
def md_X5_digitAt : zMd := (yX5_digitAt, cX5_digitAt, 2, some .int, [])
def md_X5_firstWrong : zMd := (yX5_firstWrong, cX5_firstWrong, 3, some .int, [])
def md_X5_tellsEvening : zMd := (yX5_tellsEvening, cX5_tellsEvening, 3, some .boolean, [])
def md_X5_fits : zMd := (yX5_fits, cX5_fits, 5, some .boolean, [])
def md_X6_init : zMd := (yX6_init, cX6_init, 2, none, [])
def md_X6_put : zMd := (yX6_put, cX6_put, 4, some .int, [])
def md_X6_take : zMd := (yX6_take, cX6_take, 3, some .int, [])
def md_X6_fill : zMd := (yX6_fill, cX6_fill, 3, some .int, [])
def md_X6_buy : zMd := (yX6_buy, cX6_buy, 2, some .int, [])
def md_X6_seed : zMd := (yX6_seed, cX6_seed, 3, some .int, [])
def md_X6_set : zMd := (yX6_set, cX6_set, 4, some .int, [])
def md_X6_draw : zMd := (yX6_draw, cX6_draw, 2, some .int, [])
def md_X6_claim : zMd := (yX6_claim, cX6_claim, 3, some .int, [])
def md_X6_end : zMd := (yX6_end, cX6_end, 1, some .int, [])
def md_X6_append : zMd := (yX6_append, cX6_append, 2, some .int, [])
def md_X6_clearBuffer : zMd := (yX6_clearBuffer, cX6_clearBuffer, 2, some .int, [])
def md_X6_firstError : zMd := (yX6_firstError, cX6_firstError, 1, some .int, [])
def md_X6_run : zMd := (yX6_run, cX6_run, 4, some .int, [])
def md_X6_keep : zMd := (yX6_keep, cX6_keep, 2, some .int, [])
def md_X6_goBack : zMd := (yX6_goBack, cX6_goBack, 2, some .int, [])
def md_X6_undo : zMd := (yX6_undo, cX6_undo, 1, some .int, [])
def md_X6_at : zMd := (yX6_at, cX6_at, 4, some .int, [])
def md_X6_cardOf : zMd := (yX6_cardOf, cX6_cardOf, 5, some .int, [])
def md_X6_numberOf : zMd := (yX6_numberOf, cX6_numberOf, 4, some .int, [])
def md_X6_call : zMd := (yX6_call, cX6_call, 5, some .int, [])
def md_X6_gameOf : zMd := (yX6_gameOf, cX6_gameOf, 3, some .int, [])
def md_X6_count : zMd := (yX6_count, cX6_count, 2, some .int, [])
def md_X6_setting : zMd := (yX6_setting, cX6_setting, 2, some .int, [])
def md_X6_whyNot : zMd := (yX6_whyNot, cX6_whyNot, 4, some .int, [])
def md_X6_ifClaimed : zMd := (yX6_ifClaimed, cX6_ifClaimed, 3, some .int, [])
def md_X6_missing : zMd := (yX6_missing, cX6_missing, 6, some .int, [])
def md_X6_fullAt : zMd := (yX6_fullAt, cX6_fullAt, 3, some .int, [])
def md_X6_firstFull : zMd := (yX6_firstFull, cX6_firstFull, 5, some .int, [])
def md_X6_next : zMd := (yX6_next, cX6_next, 5, some .int, [])
def md_X6_drawnShare : zMd := (yX6_drawnShare, cX6_drawnShare, 4, some .double, [])
def md_X6_digest : zMd := (yX6_digest, cX6_digest, 4, some .long, [])
def md_X6_withPlaces : zMd := (yX6_withPlaces, cX6_withPlaces, 7, some .long, [])
def md_X6_withCard : zMd := (yX6_withCard, cX6_withCard, 7, some .long, [])
def md_X6_withNumbersAndCalls : zMd := (yX6_withNumbersAndCalls, cX6_withNumbersAndCalls, 7, some .long, [])
def md_X6_withGamesAndRows : zMd := (yX6_withGamesAndRows, cX6_withGamesAndRows, 7, some .long, [])
def md_X6_withSlotsAndBuffer : zMd := (yX6_withSlotsAndBuffer, cX6_withSlotsAndBuffer, 6, some .long, [])
def md_X6_bitsOfShare : zMd := (yX6_bitsOfShare, cX6_bitsOfShare, 7, some .long, [])
def md_X6_needPlace : zMd := (yX6_needPlace, cX6_needPlace, 1, none, [])
def md_X6_needValue : zMd := (yX6_needValue, cX6_needValue, 1, none, [])
def md_X6_needState : zMd := (yX6_needState, cX6_needState, 1, none, [])
def md_X6_isCard : zMd := (yX6_isCard, cX6_isCard, 1, some .boolean, [])
def md_X6_isRow : zMd := (yX6_isRow, cX6_isRow, 1, some .boolean, [])
def md_X6_isNumber : zMd := (yX6_isNumber, cX6_isNumber, 1, some .boolean, [])
def md_X6_isGame : zMd := (yX6_isGame, cX6_isGame, 1, some .boolean, [])
def md_X6_isSetting : zMd := (yX6_isSetting, cX6_isSetting, 1, some .boolean, [])
def md_X6_isSlot : zMd := (yX6_isSlot, cX6_isSlot, 1, some .boolean, [])
def md_X6_lotAfter : zMd := (yX6_lotAfter, cX6_lotAfter, 1, some .int, [])
def md_X6_save : zMd := (yX6_save, cX6_save, 1, none, [])
def md_X6_doOrder : zMd := (yX6_doOrder, cX6_doOrder, 5, some .boolean, [])
def md_X6_fullBallByBall : zMd := (yX6_fullBallByBall, cX6_fullBallByBall, 7, some .int, [])
def md_X6_layOrder : zMd := (yX6_layOrder, cX6_layOrder, 4, none, [])
def md_X6_lastCallInOrder : zMd := (yX6_lastCallInOrder, cX6_lastCallInOrder, 4, some .int, [])
def md_X7_init : zMd := (yX7_init, cX7_init, 1, none, [])
def md_X7_thrown : zMd := (yX7_thrown, cX7_thrown, 1, some .int, [])
def md_X7_in : zMd := (yX7_in, cX7_in, 3, some .boolean, [])
def md_X7_goes : zMd := (yX7_goes, cX7_goes, 4, some .boolean, [])
def md_X7_copies : zMd := (yX7_copies, cX7_copies, 4, none, [])
def md_X7_saves : zMd := (yX7_saves, cX7_saves, 2, none, [])
def md_X7_isCard : zMd := (yX7_isCard, cX7_isCard, 1, some .boolean, [])
def md_X7_isRow : zMd := (yX7_isRow, cX7_isRow, 1, some .boolean, [])
def md_X7_isNumber : zMd := (yX7_isNumber, cX7_isNumber, 1, some .boolean, [])
def md_X7_column : zMd := (yX7_column, cX7_column, 1, some .int, [])
def md_X7_numberAt : zMd := (yX7_numberAt, cX7_numberAt, 6, some .int, [])
def md_X7_ofRow : zMd := (yX7_ofRow, cX7_ofRow, 7, some .int, [])
def md_X7_ofCard : zMd := (yX7_ofCard, cX7_ofCard, 3, some .int, [])
def md_X7_isWhole : zMd := (yX7_isWhole, cX7_isWhole, 2, some .boolean, [])
def md_X7_wrong : zMd := (yX7_wrong, cX7_wrong, 6, some .int, [])
def md_X7_puts : zMd := (yX7_puts, cX7_puts, 5, some .int, [])
def md_X7_put : zMd := (yX7_put, cX7_put, 4, some .int, [])
def md_X7_take : zMd := (yX7_take, cX7_take, 4, some .int, [])
def md_X7_lot : zMd := (yX7_lot, cX7_lot, 3, some .int, [])
def md_X7_free : zMd := (yX7_free, cX7_free, 4, some .int, [])
def md_X7_inBook : zMd := (yX7_inBook, cX7_inBook, 3, some .int, [])
def md_X7_fill : zMd := (yX7_fill, cX7_fill, 9, some .int, [])
def md_X7_canBuy : zMd := (yX7_canBuy, cX7_canBuy, 2, some .boolean, [])
def md_X7_buys : zMd := (yX7_buys, cX7_buys, 2, some .int, [])
def md_X7_buy : zMd := (yX7_buy, cX7_buy, 3, some .int, [])
def md_X7_seed : zMd := (yX7_seed, cX7_seed, 3, some .int, [])
def md_X7_set : zMd := (yX7_set, cX7_set, 5, some .int, [])
def md_X7_draws : zMd := (yX7_draws, cX7_draws, 7, some .int, [])
def md_X7_drawsAll : zMd := (yX7_drawsAll, cX7_drawsAll, 4, some .int, [])
def md_X7_draw : zMd := (yX7_draw, cX7_draw, 3, some .int, [])
def md_X7_isCorner : zMd := (yX7_isCorner, cX7_isCorner, 7, some .boolean, [])
def md_X7_holds : zMd := (yX7_holds, cX7_holds, 7, some .boolean, [])
def md_X7_isByLast : zMd := (yX7_isByLast, cX7_isByLast, 6, some .boolean, [])
def md_X7_why : zMd := (yX7_why, cX7_why, 3, some .int, [])
def md_X7_claims : zMd := (yX7_claims, cX7_claims, 4, some .int, [])
def md_X7_claim : zMd := (yX7_claim, cX7_claim, 4, some .int, [])
def md_X7_winners : zMd := (yX7_winners, cX7_winners, 4, some .int, [])
def md_X7_bits : zMd := (yX7_bits, cX7_bits, 3, some .int, [])
def md_X7_each : zMd := (yX7_each, cX7_each, 4, some .int, [])
def md_X7_end : zMd := (yX7_end, cX7_end, 5, some .int, [])
def md_X7_append : zMd := (yX7_append, cX7_append, 2, some .int, [])
def md_X7_clearBuffer : zMd := (yX7_clearBuffer, cX7_clearBuffer, 2, some .int, [])
def md_X7_greatest : zMd := (yX7_greatest, cX7_greatest, 3, some .int, [])
def md_X7_leastFigure : zMd := (yX7_leastFigure, cX7_leastFigure, 3, some .int, [])
def md_X7_orderEnd : zMd := (yX7_orderEnd, cX7_orderEnd, 5, some .int, [])
def md_X7_error : zMd := (yX7_error, cX7_error, 3, some .int, [])
def md_X7_firstError : zMd := (yX7_firstError, cX7_firstError, 2, some .int, [])
def md_X7_figure : zMd := (yX7_figure, cX7_figure, 2, some .int, [])
def md_X7_does : zMd := (yX7_does, cX7_does, 3, some .boolean, [])
def md_X7_run : zMd := (yX7_run, cX7_run, 4, some .int, [])
def md_X7_keep : zMd := (yX7_keep, cX7_keep, 2, some .int, [])
def md_X7_goBack : zMd := (yX7_goBack, cX7_goBack, 2, some .int, [])
def md_X7_undo : zMd := (yX7_undo, cX7_undo, 1, some .int, [])
def md_X7_at : zMd := (yX7_at, cX7_at, 4, some .int, [])
def md_X7_fullRows : zMd := (yX7_fullRows, cX7_fullRows, 4, some .int, [])
def md_X7_cards : zMd := (yX7_cards, cX7_cards, 3, some .int, [])
def md_X7_cardOf : zMd := (yX7_cardOf, cX7_cardOf, 3, some .int, [])
def md_X7_numbers : zMd := (yX7_numbers, cX7_numbers, 4, some .int, [])
def md_X7_numberOf : zMd := (yX7_numberOf, cX7_numberOf, 3, some .int, [])
def md_X7_calls : zMd := (yX7_calls, cX7_calls, 3, some .int, [])
def md_X7_call : zMd := (yX7_call, cX7_call, 3, some .int, [])
def md_X7_games : zMd := (yX7_games, cX7_games, 3, some .int, [])
def md_X7_gameOf : zMd := (yX7_gameOf, cX7_gameOf, 3, some .int, [])
def md_X7_cardsThat : zMd := (yX7_cardsThat, cX7_cardsThat, 4, some .int, [])
def md_X7_counted : zMd := (yX7_counted, cX7_counted, 2, some .int, [])
def md_X7_count : zMd := (yX7_count, cX7_count, 2, some .int, [])
def md_X7_setting : zMd := (yX7_setting, cX7_setting, 2, some .int, [])
def md_X7_whyNot : zMd := (yX7_whyNot, cX7_whyNot, 4, some .int, [])
def md_X7_claimed : zMd := (yX7_claimed, cX7_claimed, 3, some .int, [])
def md_X7_ifClaimed : zMd := (yX7_ifClaimed, cX7_ifClaimed, 3, some .int, [])
def md_X7_lacks : zMd := (yX7_lacks, cX7_lacks, 9, some .int, [])
def md_X7_misses : zMd := (yX7_misses, cX7_misses, 10, some .int, [])
def md_X7_missing : zMd := (yX7_missing, cX7_missing, 4, some .int, [])
def md_X7_empties : zMd := (yX7_empties, cX7_empties, 1, none, [])
def md_X7_full : zMd := (yX7_full, cX7_full, 6, some .int, [])
def md_X7_fullAt : zMd := (yX7_fullAt, cX7_fullAt, 3, some .int, [])
def md_X7_first : zMd := (yX7_first, cX7_first, 5, some .int, [])
def md_X7_firstFull : zMd := (yX7_firstFull, cX7_firstFull, 1, some .int, [])
def md_X7_nextBall : zMd := (yX7_nextBall, cX7_nextBall, 3, some .int, [])
def md_X7_next : zMd := (yX7_next, cX7_next, 2, some .int, [])
def md_X7_share : zMd := (yX7_share, cX7_share, 3, some .double, [])
def md_X7_drawnShare : zMd := (yX7_drawnShare, cX7_drawnShare, 1, some .double, [])
def md_X7_digest : zMd := (yX7_digest, cX7_digest, 5, some .long, [])
def md_Jxe99ae_isNaN_b9ae7 : zMd := (yJxe99ae_isNaN_b9ae7, cJxe99ae_isNaN_b9ae7, 2, some .boolean, [])
def md_Jxe99ae_doubleToLongBits_ccdee : zMd := (yJxe99ae_doubleToLongBits_ccdee, cJxe99ae_doubleToLongBits_ccdee, 2, some .long, [])
def md_J6_bitCount_0f7a4 : zMd := (yJ6_bitCount_0f7a4, cJ6_bitCount_0f7a4, 1, some .int, [])
def md_J9_max_7cf53 : zMd := (yJ9_max_7cf53, cJ9_max_7cf53, 2, some .int, [])
def md_J9_min_7cf53 : zMd := (yJ9_min_7cf53, cJ9_min_7cf53, 2, some .int, [])
def md_J7_fill_53178 : zMd := (yJ7_fill_53178, cJ7_fill_53178, 4, none, [])
def md_L_put : zMd := (yL_put, cL_put, 6, some .int, [(0, 12, 15, 13), (0, 12, 19, 15)])
def md_L_take : zMd := (yL_take, cL_take, 4, some .int, [(0, 9, 12, 15), (0, 9, 15, 21)])
def md_L_fill : zMd := (yL_fill, cL_fill, 5, some .int, [(0, 10, 13, 13), (0, 10, 17, 15), (0, 10, 21, 21)])
def md_L_buy : zMd := (yL_buy, cL_buy, 4, some .int, [(0, 9, 12, 13), (0, 9, 15, 21)])
def md_L_seed : zMd := (yL_seed, cL_seed, 4, some .int, [(0, 9, 12, 15)])
def md_L_set : zMd := (yL_set, cL_set, 5, some .int, [(0, 10, 13, 13), (0, 10, 17, 15)])
def md_L_draw : zMd := (yL_draw, cL_draw, 4, some .int, [(0, 9, 12, 15), (0, 9, 15, 21)])
def md_L_claim : zMd := (yL_claim, cL_claim, 5, some .int, [(0, 10, 13, 13), (0, 10, 17, 21)])
def md_L_append : zMd := (yL_append, cL_append, 4, some .int, [(0, 9, 12, 15), (0, 9, 15, 21)])
def md_L_run : zMd := (yL_run, cL_run, 3, some .int, [(0, 8, 11, 15)])
def md_L_keep : zMd := (yL_keep, cL_keep, 4, some .int, [(0, 9, 12, 15)])
def md_L_goBack : zMd := (yL_goBack, cL_goBack, 4, some .int, [(0, 9, 12, 15), (0, 9, 15, 21)])
def md_L_undo : zMd := (yL_undo, cL_undo, 3, some .int, [(0, 8, 11, 21)])
def md_L_at : zMd := (yL_at, cL_at, 6, some .int, [(0, 12, 15, 13)])
def md_L_cardOf : zMd := (yL_cardOf, cL_cardOf, 5, some .int, [(0, 10, 13, 13), (0, 10, 17, 15)])
def md_L_numberOf : zMd := (yL_numberOf, cL_numberOf, 5, some .int, [(0, 10, 13, 15)])
def md_L_call : zMd := (yL_call, cL_call, 5, some .int, [(0, 10, 13, 15)])
def md_L_gameOf : zMd := (yL_gameOf, cL_gameOf, 5, some .int, [(0, 10, 13, 13), (0, 10, 17, 15)])
def md_L_count : zMd := (yL_count, cL_count, 4, some .int, [(0, 9, 12, 15)])
def md_L_setting : zMd := (yL_setting, cL_setting, 4, some .int, [(0, 9, 12, 13)])
def md_L_whyNot : zMd := (yL_whyNot, cL_whyNot, 6, some .int, [(0, 12, 15, 13), (0, 12, 19, 15)])
def md_L_ifClaimed : zMd := (yL_ifClaimed, cL_ifClaimed, 5, some .int, [(0, 10, 13, 13)])
def md_L_missing : zMd := (yL_missing, cL_missing, 6, some .int, [(0, 12, 15, 13), (0, 12, 19, 15)])
def md_L_fullAt : zMd := (yL_fullAt, cL_fullAt, 5, some .int, [(0, 10, 13, 13), (0, 10, 17, 15)])
def md_L_next : zMd := (yL_next, cL_next, 4, some .int, [(0, 9, 12, 15)])
def md_L_law : zMd := (yL_law, cL_law, 9, some .boolean, [])
theorem ug_0 : zG (u_ws RX0 TX0 5) := zG.p [251, 253, 255, 257, 259] (by decide +kernel) (by decide +kernel)
theorem cl_0 : zCl 0 RX0 TX0 5 := ⟨rfl, ug_0, nmX0, tyX0, tyX0_ok⟩
theorem ft_0_0 : zFlT 0 0 true (.object "TombolaBooks$Cards") RX0 := by
  intro C T N h
  cases h
  exact ⟨rfl, by decide +kernel, rfl⟩
theorem ft_0_1 : zFlT 0 1 true (.object "TombolaBooks$Evening") RX0 := by
  intro C T N h
  cases h
  exact ⟨rfl, by decide +kernel, rfl⟩
theorem ft_0_2 : zFlT 0 2 true (.object "TombolaBooks$Tally") RX0 := by
  intro C T N h
  cases h
  exact ⟨rfl, by decide +kernel, rfl⟩
theorem ft_0_3 : zFlT 0 3 true (.array .int) RX0 := by
  intro C T N h
  cases h
  exact ⟨rfl, by decide +kernel, rfl⟩
theorem ft_0_4 : zFlT 0 4 false (.int) RX0 := by
  intro C T N h
  cases h
  exact ⟨rfl, by decide +kernel, rfl⟩
theorem ug_1 : zG (u_ws RX1 TX1 3) := zG.p [113, 115, 117] (by decide +kernel) (by decide +kernel)
theorem cl_1 : zCl 1 RX1 TX1 3 := ⟨rfl, ug_1, nmX1, tyX1, tyX1_ok⟩
theorem ft_1_0 : zFlT 1 0 true (.array .int) RX1 := by
  intro C T N h
  cases h
  exact ⟨rfl, by decide +kernel, rfl⟩
theorem ft_1_1 : zFlT 1 1 true (.array .int) RX1 := by
  intro C T N h
  cases h
  exact ⟨rfl, by decide +kernel, rfl⟩
theorem ft_1_2 : zFlT 1 2 false (.int) RX1 := by
  intro C T N h
  cases h
  exact ⟨rfl, by decide +kernel, rfl⟩
theorem ug_2 : zG (u_ws RX2 TX2 2) := zG.p [137, 139] (by decide +kernel) (by decide +kernel)
theorem cl_2 : zCl 2 RX2 TX2 2 := ⟨rfl, ug_2, nmX2, tyX2, tyX2_ok⟩
theorem ft_2_0 : zFlT 2 0 true (.array .int) RX2 := by
  intro C T N h
  cases h
  exact ⟨rfl, by decide +kernel, rfl⟩
theorem ft_2_1 : zFlT 2 1 false (.int) RX2 := by
  intro C T N h
  cases h
  exact ⟨rfl, by decide +kernel, rfl⟩
theorem ug_3 : zG (u_ws RX3 TX3 10) := zG.p [173, 175, 177, 179, 181, 183, 185, 187, 189, 191] (by decide +kernel) (by decide +kernel)
theorem cl_3 : zCl 3 RX3 TX3 10 := ⟨rfl, ug_3, nmX3, tyX3, tyX3_ok⟩
theorem ft_3_0 : zFlT 3 0 true (.object "TombolaBooks$Drum") RX3 := by
  intro C T N h
  cases h
  exact ⟨rfl, by decide +kernel, rfl⟩
theorem ft_3_1 : zFlT 3 1 true (.array .int) RX3 := by
  intro C T N h
  cases h
  exact ⟨rfl, by decide +kernel, rfl⟩
theorem ft_3_2 : zFlT 3 2 true (.array .int) RX3 := by
  intro C T N h
  cases h
  exact ⟨rfl, by decide +kernel, rfl⟩
theorem ft_3_3 : zFlT 3 3 true (.array .int) RX3 := by
  intro C T N h
  cases h
  exact ⟨rfl, by decide +kernel, rfl⟩
theorem ft_3_4 : zFlT 3 4 true (.array .int) RX3 := by
  intro C T N h
  cases h
  exact ⟨rfl, by decide +kernel, rfl⟩
theorem ft_3_5 : zFlT 3 5 true (.array .int) RX3 := by
  intro C T N h
  cases h
  exact ⟨rfl, by decide +kernel, rfl⟩
theorem ft_3_6 : zFlT 3 6 true (.array .int) RX3 := by
  intro C T N h
  cases h
  exact ⟨rfl, by decide +kernel, rfl⟩
theorem ft_3_7 : zFlT 3 7 false (.int) RX3 := by
  intro C T N h
  cases h
  exact ⟨rfl, by decide +kernel, rfl⟩
theorem ft_3_8 : zFlT 3 8 false (.int) RX3 := by
  intro C T N h
  cases h
  exact ⟨rfl, by decide +kernel, rfl⟩
theorem ft_3_9 : zFlT 3 9 false (.int) RX3 := by
  intro C T N h
  cases h
  exact ⟨rfl, by decide +kernel, rfl⟩
theorem ug_4 : zG (u_ws RX4 TX4 9) := zG.p [217, 219, 221, 223, 225, 227, 229, 231, 233] (by decide +kernel) (by decide +kernel)
theorem cl_4 : zCl 4 RX4 TX4 9 := ⟨rfl, ug_4, nmX4, tyX4, tyX4_ok⟩
theorem ft_4_0 : zFlT 4 0 true (.array .int) RX4 := by
  intro C T N h
  cases h
  exact ⟨rfl, by decide +kernel, rfl⟩
theorem ft_4_1 : zFlT 4 1 true (.array .int) RX4 := by
  intro C T N h
  cases h
  exact ⟨rfl, by decide +kernel, rfl⟩
theorem ft_4_2 : zFlT 4 2 false (.int) RX4 := by
  intro C T N h
  cases h
  exact ⟨rfl, by decide +kernel, rfl⟩
theorem ft_4_3 : zFlT 4 3 false (.int) RX4 := by
  intro C T N h
  cases h
  exact ⟨rfl, by decide +kernel, rfl⟩
theorem ft_4_4 : zFlT 4 4 false (.int) RX4 := by
  intro C T N h
  cases h
  exact ⟨rfl, by decide +kernel, rfl⟩
theorem ft_4_5 : zFlT 4 5 false (.int) RX4 := by
  intro C T N h
  cases h
  exact ⟨rfl, by decide +kernel, rfl⟩
theorem ft_4_6 : zFlT 4 6 false (.int) RX4 := by
  intro C T N h
  cases h
  exact ⟨rfl, by decide +kernel, rfl⟩
theorem ft_4_7 : zFlT 4 7 false (.int) RX4 := by
  intro C T N h
  cases h
  exact ⟨rfl, by decide +kernel, rfl⟩
theorem ft_4_8 : zFlT 4 8 false (.int) RX4 := by
  intro C T N h
  cases h
  exact ⟨rfl, by decide +kernel, rfl⟩
theorem ug_5 : zG (u_ws RX5 TX5 2) := zG.p [273, 275] (by decide +kernel) (by decide +kernel)
theorem cl_5 : zCl 5 RX5 TX5 2 := ⟨rfl, ug_5, nmX5, tyX5, tyX5_ok⟩
theorem ft_5_0 : zFlT 5 0 true (.array .int) RX5 := by
  intro C T N h
  cases h
  exact ⟨rfl, by decide +kernel, rfl⟩
theorem ft_5_1 : zFlT 5 1 false (.int) RX5 := by
  intro C T N h
  cases h
  exact ⟨rfl, by decide +kernel, rfl⟩
theorem ug_6 : zG (u_ws RX6 TX6 9) := zG.p [290, 292, 294, 296, 298, 300, 302, 304, 306] (by decide +kernel) (by decide +kernel)
theorem cl_6 : zCl 6 RX6 TX6 9 := ⟨rfl, ug_6, nmX6, tyX6, tyX6_ok⟩
theorem ft_6_0 : zFlT 6 0 true (.object "TombolaBooks$Book") RX6 := by
  intro C T N h
  cases h
  exact ⟨rfl, by decide +kernel, rfl⟩
theorem ft_6_1 : zFlT 6 1 true (.array (.object "TombolaBooks$Book")) RX6 := by
  intro C T N h
  cases h
  exact ⟨rfl, by decide +kernel, rfl⟩
theorem ft_6_2 : zFlT 6 2 true (.array .boolean) RX6 := by
  intro C T N h
  cases h
  exact ⟨rfl, by decide +kernel, rfl⟩
theorem ft_6_3 : zFlT 6 3 true (.array (.object "TombolaBooks$Book")) RX6 := by
  intro C T N h
  cases h
  exact ⟨rfl, by decide +kernel, rfl⟩
theorem ft_6_4 : zFlT 6 4 false (.int) RX6 := by
  intro C T N h
  cases h
  exact ⟨rfl, by decide +kernel, rfl⟩
theorem ft_6_5 : zFlT 6 5 false (.int) RX6 := by
  intro C T N h
  cases h
  exact ⟨rfl, by decide +kernel, rfl⟩
theorem ft_6_6 : zFlT 6 6 true (.object "TombolaBooks$Text") RX6 := by
  intro C T N h
  cases h
  exact ⟨rfl, by decide +kernel, rfl⟩
theorem ft_6_7 : zFlT 6 7 true (.object "TombolaBooks$Drum") RX6 := by
  intro C T N h
  cases h
  exact ⟨rfl, by decide +kernel, rfl⟩
theorem ft_6_8 : zFlT 6 8 true (.array .int) RX6 := by
  intro C T N h
  cases h
  exact ⟨rfl, by decide +kernel, rfl⟩
theorem ug_7 : zG (u_ws RX7 TX7 6) := zG.p [985, 987, 989, 991, 993, 995] (by decide +kernel) (by decide +kernel)
theorem cl_7 : zCl 7 RX7 TX7 6 := ⟨rfl, ug_7, nmX7, tyX7, tyX7_ok⟩
theorem ft_7_0 : zFlT 7 0 true (.array .int) RX7 := by
  intro C T N h
  cases h
  exact ⟨rfl, by decide +kernel, rfl⟩
theorem ft_7_1 : zFlT 7 1 false (.int) RX7 := by
  intro C T N h
  cases h
  exact ⟨rfl, by decide +kernel, rfl⟩
theorem ft_7_2 : zFlT 7 2 true (.array .boolean) RX7 := by
  intro C T N h
  cases h
  exact ⟨rfl, by decide +kernel, rfl⟩
theorem ft_7_3 : zFlT 7 3 false (.int) RX7 := by
  intro C T N h
  cases h
  exact ⟨rfl, by decide +kernel, rfl⟩
theorem ft_7_4 : zFlT 7 4 true (.array .char) RX7 := by
  intro C T N h
  cases h
  exact ⟨rfl, by decide +kernel, rfl⟩
theorem ft_7_5 : zFlT 7 5 false (.int) RX7 := by
  intro C T N h
  cases h
  exact ⟨rfl, by decide +kernel, rfl⟩
theorem f_X1_9 : zFl RX1 9 1 0 := ⟨_, _, _, cl_1, by decide, zG.p [106] (by decide +kernel) (by decide +kernel)⟩
theorem f_X1_15 : zFl RX1 15 1 1 := ⟨_, _, _, cl_1, by decide, zG.p [107] (by decide +kernel) (by decide +kernel)⟩
theorem f_X6_73 : zFl RX6 73 1 1 := ⟨_, _, _, cl_1, by decide, zG.p [108] (by decide +kernel) (by decide +kernel)⟩
theorem f_X2_25 : zFl RX2 25 1 1 := ⟨_, _, _, cl_1, by decide, zG.p [109] (by decide +kernel) (by decide +kernel)⟩
theorem f_X0_144 : zFl RX0 144 1 1 := ⟨_, _, _, cl_1, by decide, zG.p [110] (by decide +kernel) (by decide +kernel)⟩
theorem f_X1_30 : zFl RX1 30 1 2 := ⟨_, _, _, cl_1, by decide, zG.p [111] (by decide +kernel) (by decide +kernel)⟩
theorem f_X6_169 : zFl RX6 169 1 2 := ⟨_, _, _, cl_1, by decide, zG.p [112] (by decide +kernel) (by decide +kernel)⟩
theorem f_X2_9 : zFl RX2 9 2 0 := ⟨_, _, _, cl_2, by decide, zG.p [133] (by decide +kernel) (by decide +kernel)⟩
theorem f_X2_15 : zFl RX2 15 2 1 := ⟨_, _, _, cl_2, by decide, zG.p [134] (by decide +kernel) (by decide +kernel)⟩
theorem f_X0_79 : zFl RX0 79 2 1 := ⟨_, _, _, cl_2, by decide, zG.p [135] (by decide +kernel) (by decide +kernel)⟩
theorem f_X6_124 : zFl RX6 124 2 1 := ⟨_, _, _, cl_2, by decide, zG.p [136] (by decide +kernel) (by decide +kernel)⟩
theorem f_X3_12 : zFl RX3 12 3 0 := ⟨_, _, _, cl_3, by decide, zG.p [146] (by decide +kernel) (by decide +kernel)⟩
theorem f_X6_121 : zFl RX6 121 3 0 := ⟨_, _, _, cl_3, by decide, zG.p [147] (by decide +kernel) (by decide +kernel)⟩
theorem f_X0_107 : zFl RX0 107 3 0 := ⟨_, _, _, cl_3, by decide, zG.p [148] (by decide +kernel) (by decide +kernel)⟩
theorem f_X3_18 : zFl RX3 18 3 1 := ⟨_, _, _, cl_3, by decide, zG.p [149] (by decide +kernel) (by decide +kernel)⟩
theorem f_X6_216 : zFl RX6 216 3 1 := ⟨_, _, _, cl_3, by decide, zG.p [150] (by decide +kernel) (by decide +kernel)⟩
theorem f_X3_22 : zFl RX3 22 3 2 := ⟨_, _, _, cl_3, by decide, zG.p [151] (by decide +kernel) (by decide +kernel)⟩
theorem f_X6_219 : zFl RX6 219 3 2 := ⟨_, _, _, cl_3, by decide, zG.p [152] (by decide +kernel) (by decide +kernel)⟩
theorem f_X3_25 : zFl RX3 25 3 3 := ⟨_, _, _, cl_3, by decide, zG.p [153] (by decide +kernel) (by decide +kernel)⟩
theorem f_X0_120 : zFl RX0 120 3 3 := ⟨_, _, _, cl_3, by decide, zG.p [154] (by decide +kernel) (by decide +kernel)⟩
theorem f_X6_185 : zFl RX6 185 3 3 := ⟨_, _, _, cl_3, by decide, zG.p [155] (by decide +kernel) (by decide +kernel)⟩
theorem f_X3_28 : zFl RX3 28 3 4 := ⟨_, _, _, cl_3, by decide, zG.p [156] (by decide +kernel) (by decide +kernel)⟩
theorem f_X0_127 : zFl RX0 127 3 4 := ⟨_, _, _, cl_3, by decide, zG.p [157] (by decide +kernel) (by decide +kernel)⟩
theorem f_X6_192 : zFl RX6 192 3 4 := ⟨_, _, _, cl_3, by decide, zG.p [158] (by decide +kernel) (by decide +kernel)⟩
theorem f_X3_31 : zFl RX3 31 3 5 := ⟨_, _, _, cl_3, by decide, zG.p [159] (by decide +kernel) (by decide +kernel)⟩
theorem f_X0_114 : zFl RX0 114 3 5 := ⟨_, _, _, cl_3, by decide, zG.p [160] (by decide +kernel) (by decide +kernel)⟩
theorem f_X6_222 : zFl RX6 222 3 5 := ⟨_, _, _, cl_3, by decide, zG.p [161] (by decide +kernel) (by decide +kernel)⟩
theorem f_X3_34 : zFl RX3 34 3 6 := ⟨_, _, _, cl_3, by decide, zG.p [162] (by decide +kernel) (by decide +kernel)⟩
theorem f_X0_117 : zFl RX0 117 3 6 := ⟨_, _, _, cl_3, by decide, zG.p [163] (by decide +kernel) (by decide +kernel)⟩
theorem f_X6_225 : zFl RX6 225 3 6 := ⟨_, _, _, cl_3, by decide, zG.p [164] (by decide +kernel) (by decide +kernel)⟩
theorem f_X3_50 : zFl RX3 50 3 7 := ⟨_, _, _, cl_3, by decide, zG.p [165] (by decide +kernel) (by decide +kernel)⟩
theorem f_X0_101 : zFl RX0 101 3 7 := ⟨_, _, _, cl_3, by decide, zG.p [166] (by decide +kernel) (by decide +kernel)⟩
theorem f_X6_239 : zFl RX6 239 3 7 := ⟨_, _, _, cl_3, by decide, zG.p [167] (by decide +kernel) (by decide +kernel)⟩
theorem f_X3_54 : zFl RX3 54 3 8 := ⟨_, _, _, cl_3, by decide, zG.p [168] (by decide +kernel) (by decide +kernel)⟩
theorem f_X0_98 : zFl RX0 98 3 8 := ⟨_, _, _, cl_3, by decide, zG.p [169] (by decide +kernel) (by decide +kernel)⟩
theorem f_X6_213 : zFl RX6 213 3 8 := ⟨_, _, _, cl_3, by decide, zG.p [170] (by decide +kernel) (by decide +kernel)⟩
theorem f_X3_57 : zFl RX3 57 3 9 := ⟨_, _, _, cl_3, by decide, zG.p [171] (by decide +kernel) (by decide +kernel)⟩
theorem f_X6_242 : zFl RX6 242 3 9 := ⟨_, _, _, cl_3, by decide, zG.p [172] (by decide +kernel) (by decide +kernel)⟩
theorem f_X4_9 : zFl RX4 9 4 0 := ⟨_, _, _, cl_4, by decide, zG.p [200] (by decide +kernel) (by decide +kernel)⟩
theorem f_X0_177 : zFl RX0 177 4 0 := ⟨_, _, _, cl_4, by decide, zG.p [201] (by decide +kernel) (by decide +kernel)⟩
theorem f_X6_205 : zFl RX6 205 4 0 := ⟨_, _, _, cl_4, by decide, zG.p [202] (by decide +kernel) (by decide +kernel)⟩
theorem f_X4_15 : zFl RX4 15 4 1 := ⟨_, _, _, cl_4, by decide, zG.p [203] (by decide +kernel) (by decide +kernel)⟩
theorem f_X0_160 : zFl RX0 160 4 1 := ⟨_, _, _, cl_4, by decide, zG.p [204] (by decide +kernel) (by decide +kernel)⟩
theorem f_X6_210 : zFl RX6 210 4 1 := ⟨_, _, _, cl_4, by decide, zG.p [205] (by decide +kernel) (by decide +kernel)⟩
theorem f_X4_24 : zFl RX4 24 4 2 := ⟨_, _, _, cl_4, by decide, zG.p [206] (by decide +kernel) (by decide +kernel)⟩
theorem f_X0_168 : zFl RX0 168 4 2 := ⟨_, _, _, cl_4, by decide, zG.p [207] (by decide +kernel) (by decide +kernel)⟩
theorem f_X4_28 : zFl RX4 28 4 3 := ⟨_, _, _, cl_4, by decide, zG.p [208] (by decide +kernel) (by decide +kernel)⟩
theorem f_X4_31 : zFl RX4 31 4 4 := ⟨_, _, _, cl_4, by decide, zG.p [209] (by decide +kernel) (by decide +kernel)⟩
theorem f_X0_180 : zFl RX0 180 4 4 := ⟨_, _, _, cl_4, by decide, zG.p [210] (by decide +kernel) (by decide +kernel)⟩
theorem f_X4_34 : zFl RX4 34 4 5 := ⟨_, _, _, cl_4, by decide, zG.p [211] (by decide +kernel) (by decide +kernel)⟩
theorem f_X4_37 : zFl RX4 37 4 6 := ⟨_, _, _, cl_4, by decide, zG.p [212] (by decide +kernel) (by decide +kernel)⟩
theorem f_X0_154 : zFl RX0 154 4 6 := ⟨_, _, _, cl_4, by decide, zG.p [213] (by decide +kernel) (by decide +kernel)⟩
theorem f_X4_40 : zFl RX4 40 4 7 := ⟨_, _, _, cl_4, by decide, zG.p [214] (by decide +kernel) (by decide +kernel)⟩
theorem f_X0_157 : zFl RX0 157 4 7 := ⟨_, _, _, cl_4, by decide, zG.p [215] (by decide +kernel) (by decide +kernel)⟩
theorem f_X4_43 : zFl RX4 43 4 8 := ⟨_, _, _, cl_4, by decide, zG.p [216] (by decide +kernel) (by decide +kernel)⟩
theorem f_X0_12 : zFl RX0 12 0 0 := ⟨_, _, _, cl_0, by decide, zG.p [241] (by decide +kernel) (by decide +kernel)⟩
theorem f_X6_69 : zFl RX6 69 0 0 := ⟨_, _, _, cl_0, by decide, zG.p [242] (by decide +kernel) (by decide +kernel)⟩
theorem f_X0_21 : zFl RX0 21 0 1 := ⟨_, _, _, cl_0, by decide, zG.p [243] (by decide +kernel) (by decide +kernel)⟩
theorem f_X6_78 : zFl RX6 78 0 1 := ⟨_, _, _, cl_0, by decide, zG.p [244] (by decide +kernel) (by decide +kernel)⟩
theorem f_X0_28 : zFl RX0 28 0 2 := ⟨_, _, _, cl_0, by decide, zG.p [245] (by decide +kernel) (by decide +kernel)⟩
theorem f_X6_201 : zFl RX6 201 0 2 := ⟨_, _, _, cl_0, by decide, zG.p [246] (by decide +kernel) (by decide +kernel)⟩
theorem f_X0_32 : zFl RX0 32 0 3 := ⟨_, _, _, cl_0, by decide, zG.p [247] (by decide +kernel) (by decide +kernel)⟩
theorem f_X6_118 : zFl RX6 118 0 3 := ⟨_, _, _, cl_0, by decide, zG.p [248] (by decide +kernel) (by decide +kernel)⟩
theorem f_X0_36 : zFl RX0 36 0 4 := ⟨_, _, _, cl_0, by decide, zG.p [249] (by decide +kernel) (by decide +kernel)⟩
theorem f_X6_105 : zFl RX6 105 0 4 := ⟨_, _, _, cl_0, by decide, zG.p [250] (by decide +kernel) (by decide +kernel)⟩
theorem f_X5_9 : zFl RX5 9 5 0 := ⟨_, _, _, cl_5, by decide, zG.p [269] (by decide +kernel) (by decide +kernel)⟩
theorem f_X6_143 : zFl RX6 143 5 0 := ⟨_, _, _, cl_5, by decide, zG.p [270] (by decide +kernel) (by decide +kernel)⟩
theorem f_X5_15 : zFl RX5 15 5 1 := ⟨_, _, _, cl_5, by decide, zG.p [271] (by decide +kernel) (by decide +kernel)⟩
theorem f_X6_140 : zFl RX6 140 5 1 := ⟨_, _, _, cl_5, by decide, zG.p [272] (by decide +kernel) (by decide +kernel)⟩
theorem f_X6_10 : zFl RX6 10 6 0 := ⟨_, _, _, cl_6, by decide, zG.p [281] (by decide +kernel) (by decide +kernel)⟩
theorem f_X6_16 : zFl RX6 16 6 1 := ⟨_, _, _, cl_6, by decide, zG.p [282] (by decide +kernel) (by decide +kernel)⟩
theorem f_X6_20 : zFl RX6 20 6 2 := ⟨_, _, _, cl_6, by decide, zG.p [283] (by decide +kernel) (by decide +kernel)⟩
theorem f_X6_24 : zFl RX6 24 6 3 := ⟨_, _, _, cl_6, by decide, zG.p [284] (by decide +kernel) (by decide +kernel)⟩
theorem f_X6_173 : zFl RX6 173 6 4 := ⟨_, _, _, cl_6, by decide, zG.p [285] (by decide +kernel) (by decide +kernel)⟩
theorem f_X6_170 : zFl RX6 170 6 5 := ⟨_, _, _, cl_6, by decide, zG.p [286] (by decide +kernel) (by decide +kernel)⟩
theorem f_X6_30 : zFl RX6 30 6 6 := ⟨_, _, _, cl_6, by decide, zG.p [287] (by decide +kernel) (by decide +kernel)⟩
theorem f_X6_37 : zFl RX6 37 6 7 := ⟨_, _, _, cl_6, by decide, zG.p [288] (by decide +kernel) (by decide +kernel)⟩
theorem f_X6_41 : zFl RX6 41 6 8 := ⟨_, _, _, cl_6, by decide, zG.p [289] (by decide +kernel) (by decide +kernel)⟩
theorem f_X7_7 : zFl RX7 7 7 0 := ⟨_, _, _, cl_7, by decide, zG.p [979] (by decide +kernel) (by decide +kernel)⟩
theorem f_X7_25 : zFl RX7 25 7 1 := ⟨_, _, _, cl_7, by decide, zG.p [980] (by decide +kernel) (by decide +kernel)⟩
theorem f_X7_13 : zFl RX7 13 7 2 := ⟨_, _, _, cl_7, by decide, zG.p [981] (by decide +kernel) (by decide +kernel)⟩
theorem f_X7_21 : zFl RX7 21 7 3 := ⟨_, _, _, cl_7, by decide, zG.p [982] (by decide +kernel) (by decide +kernel)⟩
theorem f_X7_17 : zFl RX7 17 7 4 := ⟨_, _, _, cl_7, by decide, zG.p [983] (by decide +kernel) (by decide +kernel)⟩
theorem f_X7_121 : zFl RX7 121 7 5 := ⟨_, _, _, cl_7, by decide, zG.p [984] (by decide +kernel) (by decide +kernel)⟩
theorem l_L_94 : zLkI RL 94 md_X6_init 0 := ⟨zG.p [85, 86, 63, 87] (by decide +kernel) (by decide +kernel), ⟨by decide, by decide, by decide +kernel⟩, by decide, rfl, rfl⟩
theorem l_X6_1 : zG [.methodLink RX6 1 Lib.objectInit, .instanceMethod Lib.objectInit, .code Lib.objectInit ⟨#[0xb1]⟩ 1 none] := zG.p [88, 89, 90] (by decide +kernel) (by decide +kernel)
theorem l_X6_9 : zLkI RX6 9 md_X0_init 0 := ⟨zG.p [93, 94, 64, 95] (by decide +kernel) (by decide +kernel), ⟨by decide, by decide, by decide +kernel⟩, by decide, rfl, rfl⟩
theorem l_X0_3 : zG [.methodLink RX0 3 Lib.objectInit, .instanceMethod Lib.objectInit, .code Lib.objectInit ⟨#[0xb1]⟩ 1 none] := zG.p [96, 89, 90] (by decide +kernel) (by decide +kernel)
theorem l_X0_11 : zLkI RX0 11 md_X1_init 0 := ⟨zG.p [99, 100, 65, 101] (by decide +kernel) (by decide +kernel), ⟨by decide, by decide, by decide +kernel⟩, by decide, rfl, rfl⟩
theorem l_X1_3 : zG [.methodLink RX1 3 Lib.objectInit, .instanceMethod Lib.objectInit, .code Lib.objectInit ⟨#[0xb1]⟩ 1 none] := zG.p [102, 89, 90] (by decide +kernel) (by decide +kernel)
theorem l_X1_18 : zLkS RX1 18 md_J7_fill_53178 2 := ⟨zG.p [103, 104, 66, 105] (by decide +kernel) (by decide +kernel), ⟨by decide, by decide, by decide +kernel⟩, by decide⟩
theorem l_X0_20 : zLkI RX0 20 md_X3_init 0 := ⟨zG.p [123, 124, 67, 125] (by decide +kernel) (by decide +kernel), ⟨by decide, by decide, by decide +kernel⟩, by decide, rfl, rfl⟩
theorem l_X3_3 : zG [.methodLink RX3 3 Lib.objectInit, .instanceMethod Lib.objectInit, .code Lib.objectInit ⟨#[0xb1]⟩ 1 none] := zG.p [126, 89, 90] (by decide +kernel) (by decide +kernel)
theorem l_X2_3 : zG [.methodLink RX2 3 Lib.objectInit, .instanceMethod Lib.objectInit, .code Lib.objectInit ⟨#[0xb1]⟩ 1 none] := zG.p [132, 89, 90] (by decide +kernel) (by decide +kernel)
theorem l_X3_37 : zLkV RX3 37 md_X2_holdAll 0 := ⟨zG.p [142, 143, 144, 68, 145] (by decide +kernel) (by decide +kernel), ⟨by decide, by decide, by decide +kernel⟩, by decide⟩
theorem l_X4_3 : zG [.methodLink RX4 3 Lib.objectInit, .instanceMethod Lib.objectInit, .code Lib.objectInit ⟨#[0xb1]⟩ 1 none] := zG.p [199, 89, 90] (by decide +kernel) (by decide +kernel)
theorem l_X0_43 : zCopyW RX0 43 := zG.p [238, 240, 239, 70] (by decide +kernel) (by decide +kernel)
theorem l_X5_3 : zG [.methodLink RX5 3 Lib.objectInit, .instanceMethod Lib.objectInit, .code Lib.objectInit ⟨#[0xb1]⟩ 1 none] := zG.p [268, 89, 90] (by decide +kernel) (by decide +kernel)
theorem l_L_130 : zLkV RL 130 md_X6_end 0 := ⟨zG.p [309, 310, 311, 63, 312] (by decide +kernel) (by decide +kernel), ⟨by decide, by decide, by decide +kernel⟩, by decide⟩
theorem l_X6_62 : zLkV RX6 62 md_X6_save 0 := ⟨zG.p [313, 315, 0, 63, 316] (by decide +kernel) (by decide +kernel), ⟨by decide, by decide, by decide +kernel⟩, by decide⟩
theorem l_X6_165 : zLkV RX6 165 md_X0_copyFrom 1 := ⟨zG.p [317, 318, 319, 64, 320] (by decide +kernel) (by decide +kernel), ⟨by decide, by decide, by decide +kernel⟩, by decide⟩
theorem l_X0_49 : zLkV RX0 49 md_X1_copyFrom 1 := ⟨zG.p [321, 322, 323, 65, 324] (by decide +kernel) (by decide +kernel), ⟨by decide, by decide, by decide +kernel⟩, by decide⟩
theorem l_X1_24 : zCopyW RX1 24 := zG.p [325, 240, 239, 70] (by decide +kernel) (by decide +kernel)
theorem l_X0_53 : zLkV RX0 53 md_X3_copyFrom 1 := ⟨zG.p [326, 327, 328, 67, 329] (by decide +kernel) (by decide +kernel), ⟨by decide, by decide, by decide +kernel⟩, by decide⟩
theorem l_X3_40 : zLkV RX3 40 md_X2_copyFrom 1 := ⟨zG.p [330, 331, 332, 68, 333] (by decide +kernel) (by decide +kernel), ⟨by decide, by decide, by decide +kernel⟩, by decide⟩
theorem l_X2_19 : zCopyW RX2 19 := zG.p [334, 240, 239, 70] (by decide +kernel) (by decide +kernel)
theorem l_X3_44 : zCopyW RX3 44 := zG.p [335, 240, 239, 70] (by decide +kernel) (by decide +kernel)
theorem l_X0_56 : zLkV RX0 56 md_X4_copyFrom 1 := ⟨zG.p [336, 337, 338, 69, 339] (by decide +kernel) (by decide +kernel), ⟨by decide, by decide, by decide +kernel⟩, by decide⟩
theorem l_X4_18 : zCopyW RX4 18 := zG.p [340, 240, 239, 70] (by decide +kernel) (by decide +kernel)
theorem l_X6_136 : zLkV RX6 136 md_X0_payAndBeginAnew 0 := ⟨zG.p [341, 342, 343, 64, 344] (by decide +kernel) (by decide +kernel), ⟨by decide, by decide, by decide +kernel⟩, by decide⟩
theorem l_X0_174 : zLkV RX0 174 md_X0_prizeForEach 1 := ⟨zG.p [345, 346, 347, 64, 348] (by decide +kernel) (by decide +kernel), ⟨by decide, by decide, by decide +kernel⟩, by decide⟩
theorem l_X0_163 : zLkS RX0 163 md_J6_bitCount_0f7a4 1 := ⟨zG.p [349, 350, 81, 351] (by decide +kernel) (by decide +kernel), ⟨by decide, by decide, by decide +kernel⟩, by decide⟩
theorem l_X0_183 : zLkV RX0 183 md_X4_closeEvening 1 := ⟨zG.p [357, 358, 359, 69, 360] (by decide +kernel) (by decide +kernel), ⟨by decide, by decide, by decide +kernel⟩, by decide⟩
theorem l_X0_187 : zLkV RX0 187 md_X3_begin 0 := ⟨zG.p [361, 362, 363, 67, 364] (by decide +kernel) (by decide +kernel), ⟨by decide, by decide, by decide +kernel⟩, by decide⟩
theorem l_X3_60 : zLkS RX3 60 md_J7_fill_53178 2 := ⟨zG.p [365, 104, 66, 105] (by decide +kernel) (by decide +kernel), ⟨by decide, by decide, by decide +kernel⟩, by decide⟩
theorem l_L_137 : zLkV RL 137 md_X6_clearBuffer 0 := ⟨zG.p [366, 367, 368, 63, 369] (by decide +kernel) (by decide +kernel), ⟨by decide, by decide, by decide +kernel⟩, by decide⟩
theorem l_L_141 : zLkV RL 141 md_X6_firstError 0 := ⟨zG.p [370, 371, 372, 63, 373] (by decide +kernel) (by decide +kernel), ⟨by decide, by decide, by decide +kernel⟩, by decide⟩
theorem l_X6_146 : zLkV RX6 146 md_X5_firstWrong 0 := ⟨zG.p [374, 375, 376, 71, 377] (by decide +kernel) (by decide +kernel), ⟨by decide, by decide, by decide +kernel⟩, by decide⟩
theorem l_X5_19 : zLkV RX5 19 md_X5_codeAt 1 := ⟨zG.p [378, 379, 380, 71, 381] (by decide +kernel) (by decide +kernel), ⟨by decide, by decide, by decide +kernel⟩, by decide⟩
theorem l_X5_23 : zLkS RX5 23 md_X5_orderLength 1 := ⟨zG.p [382, 383, 71, 384] (by decide +kernel) (by decide +kernel), ⟨by decide, by decide, by decide +kernel⟩, by decide⟩
theorem l_X5_26 : zLkV RX5 26 md_X5_fits 2 := ⟨zG.p [385, 387, 1, 71, 388] (by decide +kernel) (by decide +kernel), ⟨by decide, by decide, by decide +kernel⟩, by decide⟩
theorem l_X5_34 : zLkV RX5 34 md_X5_digitAt 1 := ⟨zG.p [389, 390, 391, 71, 392] (by decide +kernel) (by decide +kernel), ⟨by decide, by decide, by decide +kernel⟩, by decide⟩
theorem l_L_191 : zLkV RL 191 md_X6_firstFull 0 := ⟨zG.p [405, 406, 407, 63, 408] (by decide +kernel) (by decide +kernel), ⟨by decide, by decide, by decide +kernel⟩, by decide⟩
theorem l_X6_264 : zLkV RX6 264 md_X6_layOrder 0 := ⟨zG.p [409, 411, 2, 63, 412] (by decide +kernel) (by decide +kernel), ⟨by decide, by decide, by decide +kernel⟩, by decide⟩
theorem l_X6_369 : zCopyW RX6 369 := zG.p [413, 240, 239, 70] (by decide +kernel) (by decide +kernel)
theorem l_X6_270 : zLkV RX6 270 md_X2_copyFrom 1 := ⟨zG.p [414, 331, 332, 68, 333] (by decide +kernel) (by decide +kernel), ⟨by decide, by decide, by decide +kernel⟩, by decide⟩
theorem l_X6_273 : zLkS RX6 273 md_X6_lotAfter 1 := ⟨zG.p [415, 416, 63, 417] (by decide +kernel) (by decide +kernel), ⟨by decide, by decide, by decide +kernel⟩, by decide⟩
theorem l_X6_276 : zLkV RX6 276 md_X2_takeOut 1 := ⟨zG.p [418, 419, 420, 68, 421] (by decide +kernel) (by decide +kernel), ⟨by decide, by decide, by decide +kernel⟩, by decide⟩
theorem l_X6_182 : zLkV RX6 182 md_X1_isWhole 1 := ⟨zG.p [422, 423, 424, 65, 425] (by decide +kernel) (by decide +kernel), ⟨by decide, by decide, by decide +kernel⟩, by decide⟩
theorem l_X1_53 : zLkV RX1 53 md_X1_cardSize 1 := ⟨zG.p [426, 427, 428, 65, 429] (by decide +kernel) (by decide +kernel), ⟨by decide, by decide, by decide +kernel⟩, by decide⟩
theorem l_X1_46 : zLkV RX1 46 md_X1_rowSize 1 := ⟨zG.p [430, 432, 3, 65, 433] (by decide +kernel) (by decide +kernel), ⟨by decide, by decide, by decide +kernel⟩, by decide⟩
theorem l_X6_267 : zLkV RX6 267 md_X6_lastCallInOrder 1 := ⟨zG.p [434, 436, 4, 63, 437] (by decide +kernel) (by decide +kernel), ⟨by decide, by decide, by decide +kernel⟩, by decide⟩
theorem l_X6_365 : zLkV RX6 365 md_X1_standsIn 2 := ⟨zG.p [438, 439, 440, 65, 441] (by decide +kernel) (by decide +kernel), ⟨by decide, by decide, by decide +kernel⟩, by decide⟩
theorem l_L_198 : zLkV RL 198 md_X6_drawnShare 0 := ⟨zG.p [443, 444, 445, 63, 446] (by decide +kernel) (by decide +kernel), ⟨by decide, by decide, by decide +kernel⟩, by decide⟩
theorem l_X6_188 : zLkV RX6 188 md_X1_markedInCard 2 := ⟨zG.p [447, 448, 449, 65, 450] (by decide +kernel) (by decide +kernel), ⟨by decide, by decide, by decide +kernel⟩, by decide⟩
theorem l_X1_63 : zLkV RX1 63 md_X1_unmarkedInRow 2 := ⟨zG.p [451, 452, 453, 65, 454] (by decide +kernel) (by decide +kernel), ⟨by decide, by decide, by decide +kernel⟩, by decide⟩
theorem l_X1_59 : zLkS RX1 59 md_X1_isUnmarked 2 := ⟨zG.p [455, 456, 65, 457] (by decide +kernel) (by decide +kernel), ⟨by decide, by decide, by decide +kernel⟩, by decide⟩
theorem l_L_203 : zLkV RL 203 md_X6_digest 0 := ⟨zG.p [458, 459, 460, 63, 461] (by decide +kernel) (by decide +kernel), ⟨by decide, by decide, by decide +kernel⟩, by decide⟩
theorem l_X6_283 : zLkV RX6 283 md_X6_count 1 := ⟨zG.p [464, 465, 466, 63, 467] (by decide +kernel) (by decide +kernel), ⟨by decide, by decide, by decide +kernel⟩, by decide⟩
theorem l_X6_59 : zLkS RX6 59 md_X6_needValue 1 := ⟨zG.p [468, 469, 63, 470] (by decide +kernel) (by decide +kernel), ⟨by decide, by decide, by decide +kernel⟩, by decide⟩
theorem l_X6_236 : zLkV RX6 236 md_X1_wholeCards 0 := ⟨zG.p [539, 540, 541, 65, 542] (by decide +kernel) (by decide +kernel), ⟨by decide, by decide, by decide +kernel⟩, by decide⟩
theorem l_X1_56 : zLkV RX1 56 md_X1_isWhole 1 := ⟨zG.p [543, 423, 424, 65, 425] (by decide +kernel) (by decide +kernel), ⟨by decide, by decide, by decide +kernel⟩, by decide⟩
theorem l_X6_231 : zLkS RX6 231 md_J6_bitCount_0f7a4 1 := ⟨zG.p [544, 350, 81, 351] (by decide +kernel) (by decide +kernel), ⟨by decide, by decide, by decide +kernel⟩, by decide⟩
theorem l_X6_245 : zLkV RX6 245 md_X4_told 1 := ⟨zG.p [545, 546, 547, 69, 548] (by decide +kernel) (by decide +kernel), ⟨by decide, by decide, by decide +kernel⟩, by decide⟩
theorem l_X6_286 : zLkV RX6 286 md_X6_withPlaces 1 := ⟨zG.p [549, 551, 6, 63, 552] (by decide +kernel) (by decide +kernel), ⟨by decide, by decide, by decide +kernel⟩, by decide⟩
theorem l_X6_176 : zLkV RX6 176 md_X1_numberIn 2 := ⟨zG.p [553, 554, 555, 65, 556] (by decide +kernel) (by decide +kernel), ⟨by decide, by decide, by decide +kernel⟩, by decide⟩
theorem l_X6_290 : zLkV RX6 290 md_X6_withCard 2 := ⟨zG.p [557, 559, 7, 63, 560] (by decide +kernel) (by decide +kernel), ⟨by decide, by decide, by decide +kernel⟩, by decide⟩
theorem l_X6_317 : zLkV RX6 317 md_X6_cardOf 2 := ⟨zG.p [561, 562, 563, 63, 564] (by decide +kernel) (by decide +kernel), ⟨by decide, by decide, by decide +kernel⟩, by decide⟩
theorem l_X6_45 : zLkS RX6 45 md_X6_isCard 1 := ⟨zG.p [565, 394, 63, 395] (by decide +kernel) (by decide +kernel), ⟨by decide, by decide, by decide +kernel⟩, by decide⟩
theorem l_X6_52 : zLkS RX6 52 md_X6_needPlace 1 := ⟨zG.p [566, 567, 63, 568] (by decide +kernel) (by decide +kernel), ⟨by decide, by decide, by decide +kernel⟩, by decide⟩
theorem l_X6_179 : zLkV RX6 179 md_X1_cardSize 1 := ⟨zG.p [585, 427, 428, 65, 429] (by decide +kernel) (by decide +kernel), ⟨by decide, by decide, by decide +kernel⟩, by decide⟩
theorem l_X6_82 : zLkV RX6 82 md_X3_isBought 1 := ⟨zG.p [586, 587, 588, 67, 589] (by decide +kernel) (by decide +kernel), ⟨by decide, by decide, by decide +kernel⟩, by decide⟩
theorem l_X6_195 : zLkV RX6 195 md_X1_linesOf 2 := ⟨zG.p [590, 591, 592, 65, 593] (by decide +kernel) (by decide +kernel), ⟨by decide, by decide, by decide +kernel⟩, by decide⟩
theorem l_X1_67 : zLkV RX1 67 md_X1_isLine 2 := ⟨zG.p [594, 595, 596, 65, 597] (by decide +kernel) (by decide +kernel), ⟨by decide, by decide, by decide +kernel⟩, by decide⟩
theorem l_X6_198 : zLkV RX6 198 md_X3_gamesWonBy 1 := ⟨zG.p [598, 599, 600, 67, 601] (by decide +kernel) (by decide +kernel), ⟨by decide, by decide, by decide +kernel⟩, by decide⟩
theorem l_X6_320 : zLkV RX6 320 md_X6_ifClaimed 2 := ⟨zG.p [602, 603, 604, 63, 605] (by decide +kernel) (by decide +kernel), ⟨by decide, by decide, by decide +kernel⟩, by decide⟩
theorem l_X6_130 : zLkS RX6 130 md_X6_isGame 1 := ⟨zG.p [606, 397, 63, 398] (by decide +kernel) (by decide +kernel), ⟨by decide, by decide, by decide +kernel⟩, by decide⟩
theorem l_X6_251 : zLkV RX6 251 md_X0_reasonAgainstClaim 2 := ⟨zG.p [607, 608, 609, 64, 610] (by decide +kernel) (by decide +kernel), ⟨by decide, by decide, by decide +kernel⟩, by decide⟩
theorem l_X0_123 : zLkV RX0 123 md_X1_unmarkedOfGame 3 := ⟨zG.p [611, 612, 613, 65, 614] (by decide +kernel) (by decide +kernel), ⟨by decide, by decide, by decide +kernel⟩, by decide⟩
theorem l_X1_73 : zLkV RX1 73 md_X1_unmarkedCorners 2 := ⟨zG.p [615, 617, 8, 65, 618] (by decide +kernel) (by decide +kernel), ⟨by decide, by decide, by decide +kernel⟩, by decide⟩
theorem l_X1_70 : zLkV RX1 70 md_X1_corner 2 := ⟨zG.p [619, 621, 9, 65, 622] (by decide +kernel) (by decide +kernel), ⟨by decide, by decide, by decide +kernel⟩, by decide⟩
theorem l_X1_76 : zG [.methodLink RX1 76 Lib.Math.min.name, .static Lib.Math.min.name, .initialized "java/lang/Math", .code Lib.Math.min.name Lib.Math.min.code 2 (some .int)] := zG.p [623, 624, 79, 625] (by decide +kernel) (by decide +kernel)
theorem l_X1_81 : zG [.methodLink RX1 81 Lib.Math.max.name, .static Lib.Math.max.name, .initialized "java/lang/Math", .code Lib.Math.max.name Lib.Math.max.code 2 (some .int)] := zG.p [626, 627, 79, 628] (by decide +kernel) (by decide +kernel)
theorem l_X0_130 : zLkV RX0 130 md_X0_isHeldByLastBall 2 := ⟨zG.p [629, 631, 10, 64, 632] (by decide +kernel) (by decide +kernel), ⟨by decide, by decide, by decide +kernel⟩, by decide⟩
theorem l_X0_134 : zLkV RX0 134 md_X3_lastDrawn 0 := ⟨zG.p [633, 634, 635, 67, 636] (by decide +kernel) (by decide +kernel), ⟨by decide, by decide, by decide +kernel⟩, by decide⟩
theorem l_X0_138 : zLkV RX0 138 md_X1_standsIn 2 := ⟨zG.p [637, 439, 440, 65, 441] (by decide +kernel) (by decide +kernel), ⟨by decide, by decide, by decide +kernel⟩, by decide⟩
theorem l_X0_141 : zLkV RX0 141 md_X1_isCorner 1 := ⟨zG.p [638, 639, 640, 65, 641] (by decide +kernel) (by decide +kernel), ⟨by decide, by decide, by decide +kernel⟩, by decide⟩
theorem l_X0_147 : zLkV RX0 147 md_X1_unmarkedInRow 2 := ⟨zG.p [642, 452, 453, 65, 454] (by decide +kernel) (by decide +kernel), ⟨by decide, by decide, by decide +kernel⟩, by decide⟩
theorem l_X6_323 : zLkV RX6 323 md_X6_missing 3 := ⟨zG.p [643, 644, 645, 63, 646] (by decide +kernel) (by decide +kernel), ⟨by decide, by decide, by decide +kernel⟩, by decide⟩
theorem l_X6_254 : zLkV RX6 254 md_X1_unmarkedOfGame 3 := ⟨zG.p [647, 612, 613, 65, 614] (by decide +kernel) (by decide +kernel), ⟨by decide, by decide, by decide +kernel⟩, by decide⟩
theorem l_X6_258 : zLkV RX6 258 md_X1_onlyUnmarked 3 := ⟨zG.p [648, 649, 650, 65, 651] (by decide +kernel) (by decide +kernel), ⟨by decide, by decide, by decide +kernel⟩, by decide⟩
theorem l_X1_84 : zLkV RX1 84 md_X1_firstUnmarkedCorner 2 := ⟨zG.p [652, 654, 11, 65, 655] (by decide +kernel) (by decide +kernel), ⟨by decide, by decide, by decide +kernel⟩, by decide⟩
theorem l_X1_87 : zLkV RX1 87 md_X1_firstUnmarkedIn 2 := ⟨zG.p [656, 658, 12, 65, 659] (by decide +kernel) (by decide +kernel), ⟨by decide, by decide, by decide +kernel⟩, by decide⟩
theorem l_X1_42 : zLkV RX1 42 md_X1_numberIn 2 := ⟨zG.p [660, 554, 555, 65, 556] (by decide +kernel) (by decide +kernel), ⟨by decide, by decide, by decide +kernel⟩, by decide⟩
theorem l_X6_327 : zLkV RX6 327 md_X6_fullAt 2 := ⟨zG.p [661, 662, 663, 63, 664] (by decide +kernel) (by decide +kernel), ⟨by decide, by decide, by decide +kernel⟩, by decide⟩
theorem l_X6_261 : zLkV RX6 261 md_X6_fullBallByBall 1 := ⟨zG.p [665, 667, 13, 63, 668] (by decide +kernel) (by decide +kernel), ⟨by decide, by decide, by decide +kernel⟩, by decide⟩
theorem l_X6_294 : zLkV RX6 294 md_X6_withNumbersAndCalls 1 := ⟨zG.p [669, 671, 14, 63, 672] (by decide +kernel) (by decide +kernel), ⟨by decide, by decide, by decide +kernel⟩, by decide⟩
theorem l_X6_330 : zLkV RX6 330 md_X6_numberOf 2 := ⟨zG.p [673, 674, 675, 63, 676] (by decide +kernel) (by decide +kernel), ⟨by decide, by decide, by decide +kernel⟩, by decide⟩
theorem l_X6_56 : zLkS RX6 56 md_X6_isNumber 1 := ⟨zG.p [677, 403, 63, 404] (by decide +kernel) (by decide +kernel), ⟨by decide, by decide, by decide +kernel⟩, by decide⟩
theorem l_X6_333 : zLkV RX6 333 md_X6_call 2 := ⟨zG.p [678, 679, 680, 63, 681] (by decide +kernel) (by decide +kernel), ⟨by decide, by decide, by decide +kernel⟩, by decide⟩
theorem l_X6_297 : zLkV RX6 297 md_X6_withGamesAndRows 1 := ⟨zG.p [682, 684, 15, 63, 685] (by decide +kernel) (by decide +kernel), ⟨by decide, by decide, by decide +kernel⟩, by decide⟩
theorem l_X6_336 : zLkV RX6 336 md_X6_gameOf 2 := ⟨zG.p [686, 687, 688, 63, 689] (by decide +kernel) (by decide +kernel), ⟨by decide, by decide, by decide +kernel⟩, by decide⟩
theorem l_X6_228 : zLkV RX6 228 md_X0_prizeForEach 1 := ⟨zG.p [690, 346, 347, 64, 348] (by decide +kernel) (by decide +kernel), ⟨by decide, by decide, by decide +kernel⟩, by decide⟩
theorem l_X6_248 : zLkV RX6 248 md_X0_reasonAgainstPlace 2 := ⟨zG.p [691, 692, 693, 64, 694] (by decide +kernel) (by decide +kernel), ⟨by decide, by decide, by decide +kernel⟩, by decide⟩
theorem l_X0_59 : zLkV RX0 59 md_X1_reasonAgainst 2 := ⟨zG.p [695, 696, 697, 65, 698] (by decide +kernel) (by decide +kernel), ⟨by decide, by decide, by decide +kernel⟩, by decide⟩
theorem l_X1_38 : zLkS RX1 38 md_X1_columnOf 1 := ⟨zG.p [699, 700, 65, 701] (by decide +kernel) (by decide +kernel), ⟨by decide, by decide, by decide +kernel⟩, by decide⟩
theorem l_X1_49 : zLkV RX1 49 md_X1_breaksColumn 2 := ⟨zG.p [702, 704, 16, 65, 705] (by decide +kernel) (by decide +kernel), ⟨by decide, by decide, by decide +kernel⟩, by decide⟩
theorem l_X0_63 : zLkV RX0 63 md_X3_isBought 1 := ⟨zG.p [706, 587, 588, 67, 589] (by decide +kernel) (by decide +kernel), ⟨by decide, by decide, by decide +kernel⟩, by decide⟩
theorem l_X6_300 : zLkV RX6 300 md_X6_firstFull 0 := ⟨zG.p [707, 406, 407, 63, 408] (by decide +kernel) (by decide +kernel), ⟨by decide, by decide, by decide +kernel⟩, by decide⟩
theorem l_X6_303 : zLkV RX6 303 md_X6_next 1 := ⟨zG.p [708, 709, 710, 63, 711] (by decide +kernel) (by decide +kernel), ⟨by decide, by decide, by decide +kernel⟩, by decide⟩
theorem l_X6_306 : zLkV RX6 306 md_X6_drawnShare 0 := ⟨zG.p [712, 444, 445, 63, 446] (by decide +kernel) (by decide +kernel), ⟨by decide, by decide, by decide +kernel⟩, by decide⟩
theorem l_X6_310 : zLkS RX6 310 md_X6_bitsOfShare 1 := ⟨zG.p [713, 714, 63, 715] (by decide +kernel) (by decide +kernel), ⟨by decide, by decide, by decide +kernel⟩, by decide⟩
theorem l_X6_314 : zLkV RX6 314 md_X6_withSlotsAndBuffer 1 := ⟨zG.p [719, 721, 17, 63, 722] (by decide +kernel) (by decide +kernel), ⟨by decide, by decide, by decide +kernel⟩, by decide⟩
theorem l_X6_156 : zLkV RX6 156 md_X5_codeAt 1 := ⟨zG.p [723, 379, 380, 71, 381] (by decide +kernel) (by decide +kernel), ⟨by decide, by decide, by decide +kernel⟩, by decide⟩
theorem l_L_98 : zLkH RL 98 md_L_put 5 := ⟨zG.p [724, 725, 62, 726] (by decide +kernel) (by decide +kernel), ⟨by decide, by decide, by decide +kernel⟩, by decide⟩
theorem l_L_7 : zLkV RL 7 md_X6_put 3 := ⟨zG.p [729, 730, 731, 63, 732] (by decide +kernel) (by decide +kernel), ⟨by decide, by decide, by decide +kernel⟩, by decide⟩
theorem l_X6_49 : zLkS RX6 49 md_X6_isRow 1 := ⟨zG.p [733, 400, 63, 401] (by decide +kernel) (by decide +kernel), ⟨by decide, by decide, by decide +kernel⟩, by decide⟩
theorem l_X6_65 : zLkV RX6 65 md_X0_place 2 := ⟨zG.p [734, 735, 736, 64, 737] (by decide +kernel) (by decide +kernel), ⟨by decide, by decide, by decide +kernel⟩, by decide⟩
theorem l_X0_67 : zLkV RX0 67 md_X0_reasonAgainstPlace 2 := ⟨zG.p [738, 692, 693, 64, 694] (by decide +kernel) (by decide +kernel), ⟨by decide, by decide, by decide +kernel⟩, by decide⟩
theorem l_X0_70 : zLkV RX0 70 md_X1_stand 2 := ⟨zG.p [739, 740, 741, 65, 742] (by decide +kernel) (by decide +kernel), ⟨by decide, by decide, by decide +kernel⟩, by decide⟩
theorem l_L_107 : zLkH RL 107 md_L_take 3 := ⟨zG.p [743, 744, 62, 745] (by decide +kernel) (by decide +kernel), ⟨by decide, by decide, by decide +kernel⟩, by decide⟩
theorem l_L_17 : zLkV RL 17 md_X6_take 1 := ⟨zG.p [747, 748, 749, 63, 750] (by decide +kernel) (by decide +kernel), ⟨by decide, by decide, by decide +kernel⟩, by decide⟩
theorem l_X6_87 : zLkS RX6 87 md_X6_needState 1 := ⟨zG.p [751, 752, 63, 753] (by decide +kernel) (by decide +kernel), ⟨by decide, by decide, by decide +kernel⟩, by decide⟩
theorem l_X6_90 : zLkV RX6 90 md_X1_lift 1 := ⟨zG.p [770, 771, 772, 65, 773] (by decide +kernel) (by decide +kernel), ⟨by decide, by decide, by decide +kernel⟩, by decide⟩
theorem l_L_111 : zLkH RL 111 md_L_fill 4 := ⟨zG.p [774, 775, 62, 776] (by decide +kernel) (by decide +kernel), ⟨by decide, by decide, by decide +kernel⟩, by decide⟩
theorem l_L_23 : zLkV RL 23 md_X6_fill 2 := ⟨zG.p [777, 778, 779, 63, 780] (by decide +kernel) (by decide +kernel), ⟨by decide, by decide, by decide +kernel⟩, by decide⟩
theorem l_X6_94 : zLkV RX6 94 md_X0_placeByLot 3 := ⟨zG.p [781, 782, 783, 64, 784] (by decide +kernel) (by decide +kernel), ⟨by decide, by decide, by decide +kernel⟩, by decide⟩
theorem l_X0_74 : zLkV RX0 74 md_X2_holdNumbersOutOf 1 := ⟨zG.p [785, 786, 787, 68, 788] (by decide +kernel) (by decide +kernel), ⟨by decide, by decide, by decide +kernel⟩, by decide⟩
theorem l_X0_86 : zLkV RX0 86 md_X2_byLot 1 := ⟨zG.p [790, 791, 792, 68, 793] (by decide +kernel) (by decide +kernel), ⟨by decide, by decide, by decide +kernel⟩, by decide⟩
theorem l_X0_89 : zLkV RX0 89 md_X0_firstRowFor 2 := ⟨zG.p [794, 796, 18, 64, 797] (by decide +kernel) (by decide +kernel), ⟨by decide, by decide, by decide +kernel⟩, by decide⟩
theorem l_X0_92 : zLkV RX0 92 md_X2_takeOut 1 := ⟨zG.p [798, 419, 420, 68, 421] (by decide +kernel) (by decide +kernel), ⟨by decide, by decide, by decide +kernel⟩, by decide⟩
theorem l_L_115 : zLkH RL 115 md_L_buy 3 := ⟨zG.p [799, 800, 62, 801] (by decide +kernel) (by decide +kernel), ⟨by decide, by decide, by decide +kernel⟩, by decide⟩
theorem l_L_27 : zLkV RL 27 md_X6_buy 1 := ⟨zG.p [802, 803, 804, 63, 805] (by decide +kernel) (by decide +kernel), ⟨by decide, by decide, by decide +kernel⟩, by decide⟩
theorem l_X6_98 : zLkV RX6 98 md_X0_isForSale 1 := ⟨zG.p [806, 807, 808, 64, 809] (by decide +kernel) (by decide +kernel), ⟨by decide, by decide, by decide +kernel⟩, by decide⟩
theorem l_X0_95 : zLkV RX0 95 md_X1_isWhole 1 := ⟨zG.p [810, 423, 424, 65, 425] (by decide +kernel) (by decide +kernel), ⟨by decide, by decide, by decide +kernel⟩, by decide⟩
theorem l_X6_101 : zLkV RX6 101 md_X0_sell 1 := ⟨zG.p [811, 812, 813, 64, 814] (by decide +kernel) (by decide +kernel), ⟨by decide, by decide, by decide +kernel⟩, by decide⟩
theorem l_X0_104 : zLkV RX0 104 md_X4_takeIn 1 := ⟨zG.p [815, 816, 817, 69, 818] (by decide +kernel) (by decide +kernel), ⟨by decide, by decide, by decide +kernel⟩, by decide⟩
theorem l_L_118 : zLkH RL 118 md_L_seed 3 := ⟨zG.p [819, 820, 62, 821] (by decide +kernel) (by decide +kernel), ⟨by decide, by decide, by decide +kernel⟩, by decide⟩
theorem l_L_30 : zLkV RL 30 md_X6_seed 1 := ⟨zG.p [822, 823, 824, 63, 825] (by decide +kernel) (by decide +kernel), ⟨by decide, by decide, by decide +kernel⟩, by decide⟩
theorem l_L_121 : zLkH RL 121 md_L_set 4 := ⟨zG.p [826, 827, 62, 828] (by decide +kernel) (by decide +kernel), ⟨by decide, by decide, by decide +kernel⟩, by decide⟩
theorem l_L_33 : zLkV RL 33 md_X6_set 2 := ⟨zG.p [829, 830, 831, 63, 832] (by decide +kernel) (by decide +kernel), ⟨by decide, by decide, by decide +kernel⟩, by decide⟩
theorem l_X6_109 : zLkS RX6 109 md_X6_isSetting 1 := ⟨zG.p [833, 834, 63, 835] (by decide +kernel) (by decide +kernel), ⟨by decide, by decide, by decide +kernel⟩, by decide⟩
theorem l_L_124 : zLkH RL 124 md_L_draw 3 := ⟨zG.p [840, 841, 62, 842] (by decide +kernel) (by decide +kernel), ⟨by decide, by decide, by decide +kernel⟩, by decide⟩
theorem l_L_36 : zLkV RL 36 md_X6_draw 1 := ⟨zG.p [843, 844, 845, 63, 846] (by decide +kernel) (by decide +kernel), ⟨by decide, by decide, by decide +kernel⟩, by decide⟩
theorem l_X6_127 : zLkV RX6 127 md_X0_drawBalls 1 := ⟨zG.p [847, 848, 849, 64, 850] (by decide +kernel) (by decide +kernel), ⟨by decide, by decide, by decide +kernel⟩, by decide⟩
theorem l_X0_111 : zLkV RX0 111 md_X3_tell 2 := ⟨zG.p [851, 852, 853, 67, 854] (by decide +kernel) (by decide +kernel), ⟨by decide, by decide, by decide +kernel⟩, by decide⟩
theorem l_L_127 : zLkH RL 127 md_L_claim 4 := ⟨zG.p [855, 856, 62, 857] (by decide +kernel) (by decide +kernel), ⟨by decide, by decide, by decide +kernel⟩, by decide⟩
theorem l_L_39 : zLkV RL 39 md_X6_claim 2 := ⟨zG.p [858, 859, 860, 63, 861] (by decide +kernel) (by decide +kernel), ⟨by decide, by decide, by decide +kernel⟩, by decide⟩
theorem l_X6_133 : zLkV RX6 133 md_X0_settleClaim 2 := ⟨zG.p [862, 863, 864, 64, 865] (by decide +kernel) (by decide +kernel), ⟨by decide, by decide, by decide +kernel⟩, by decide⟩
theorem l_X0_151 : zLkV RX0 151 md_X0_reasonAgainstClaim 2 := ⟨zG.p [866, 608, 609, 64, 610] (by decide +kernel) (by decide +kernel), ⟨by decide, by decide, by decide +kernel⟩, by decide⟩
theorem l_L_134 : zLkH RL 134 md_L_append 3 := ⟨zG.p [867, 868, 62, 869] (by decide +kernel) (by decide +kernel), ⟨by decide, by decide, by decide +kernel⟩, by decide⟩
theorem l_L_42 : zLkV RL 42 md_X6_append 1 := ⟨zG.p [870, 871, 872, 63, 873] (by decide +kernel) (by decide +kernel), ⟨by decide, by decide, by decide +kernel⟩, by decide⟩
theorem l_L_145 : zLkH RL 145 md_L_run 2 := ⟨zG.p [874, 875, 62, 876] (by decide +kernel) (by decide +kernel), ⟨by decide, by decide, by decide +kernel⟩, by decide⟩
theorem l_L_45 : zLkV RL 45 md_X6_run 0 := ⟨zG.p [877, 878, 879, 63, 880] (by decide +kernel) (by decide +kernel), ⟨by decide, by decide, by decide +kernel⟩, by decide⟩
theorem l_X6_149 : zLkV RX6 149 md_X5_tellsEvening 0 := ⟨zG.p [881, 882, 883, 71, 884] (by decide +kernel) (by decide +kernel), ⟨by decide, by decide, by decide +kernel⟩, by decide⟩
theorem l_X5_30 : zLkV RX5 30 md_X5_firstWrong 0 := ⟨zG.p [885, 375, 376, 71, 377] (by decide +kernel) (by decide +kernel), ⟨by decide, by decide, by decide +kernel⟩, by decide⟩
theorem l_X6_153 : zLkV RX6 153 md_X6_doOrder 1 := ⟨zG.p [886, 888, 19, 63, 889] (by decide +kernel) (by decide +kernel), ⟨by decide, by decide, by decide +kernel⟩, by decide⟩
theorem l_X6_362 : zLkV RX6 362 md_X5_digitAt 1 := ⟨zG.p [890, 390, 391, 71, 392] (by decide +kernel) (by decide +kernel), ⟨by decide, by decide, by decide +kernel⟩, by decide⟩
theorem l_X6_159 : zLkS RX6 159 md_X5_orderLength 1 := ⟨zG.p [891, 383, 71, 384] (by decide +kernel) (by decide +kernel), ⟨by decide, by decide, by decide +kernel⟩, by decide⟩
theorem l_L_149 : zLkH RL 149 md_L_keep 3 := ⟨zG.p [892, 893, 62, 894] (by decide +kernel) (by decide +kernel), ⟨by decide, by decide, by decide +kernel⟩, by decide⟩
theorem l_L_49 : zLkV RL 49 md_X6_keep 1 := ⟨zG.p [895, 896, 897, 63, 898] (by decide +kernel) (by decide +kernel), ⟨by decide, by decide, by decide +kernel⟩, by decide⟩
theorem l_X6_162 : zLkS RX6 162 md_X6_isSlot 1 := ⟨zG.p [899, 900, 63, 901] (by decide +kernel) (by decide +kernel), ⟨by decide, by decide, by decide +kernel⟩, by decide⟩
theorem l_L_152 : zLkH RL 152 md_L_goBack 3 := ⟨zG.p [902, 903, 62, 904] (by decide +kernel) (by decide +kernel), ⟨by decide, by decide, by decide +kernel⟩, by decide⟩
theorem l_L_52 : zLkV RL 52 md_X6_goBack 1 := ⟨zG.p [905, 906, 907, 63, 908] (by decide +kernel) (by decide +kernel), ⟨by decide, by decide, by decide +kernel⟩, by decide⟩
theorem l_L_155 : zLkH RL 155 md_L_undo 2 := ⟨zG.p [909, 910, 62, 911] (by decide +kernel) (by decide +kernel), ⟨by decide, by decide, by decide +kernel⟩, by decide⟩
theorem l_L_55 : zLkV RL 55 md_X6_undo 0 := ⟨zG.p [912, 913, 914, 63, 915] (by decide +kernel) (by decide +kernel), ⟨by decide, by decide, by decide +kernel⟩, by decide⟩
theorem l_L_158 : zLkH RL 158 md_L_at 5 := ⟨zG.p [916, 917, 62, 918] (by decide +kernel) (by decide +kernel), ⟨by decide, by decide, by decide +kernel⟩, by decide⟩
theorem l_L_58 : zLkV RL 58 md_X6_at 3 := ⟨zG.p [919, 920, 921, 63, 922] (by decide +kernel) (by decide +kernel), ⟨by decide, by decide, by decide +kernel⟩, by decide⟩
theorem l_L_161 : zLkH RL 161 md_L_cardOf 4 := ⟨zG.p [923, 924, 62, 925] (by decide +kernel) (by decide +kernel), ⟨by decide, by decide, by decide +kernel⟩, by decide⟩
theorem l_L_61 : zLkV RL 61 md_X6_cardOf 2 := ⟨zG.p [926, 562, 563, 63, 564] (by decide +kernel) (by decide +kernel), ⟨by decide, by decide, by decide +kernel⟩, by decide⟩
theorem l_L_164 : zLkH RL 164 md_L_numberOf 4 := ⟨zG.p [927, 928, 62, 929] (by decide +kernel) (by decide +kernel), ⟨by decide, by decide, by decide +kernel⟩, by decide⟩
theorem l_L_64 : zLkV RL 64 md_X6_numberOf 2 := ⟨zG.p [930, 674, 675, 63, 676] (by decide +kernel) (by decide +kernel), ⟨by decide, by decide, by decide +kernel⟩, by decide⟩
theorem l_L_167 : zLkH RL 167 md_L_call 4 := ⟨zG.p [931, 932, 62, 933] (by decide +kernel) (by decide +kernel), ⟨by decide, by decide, by decide +kernel⟩, by decide⟩
theorem l_L_67 : zLkV RL 67 md_X6_call 2 := ⟨zG.p [934, 679, 680, 63, 681] (by decide +kernel) (by decide +kernel), ⟨by decide, by decide, by decide +kernel⟩, by decide⟩
theorem l_L_170 : zLkH RL 170 md_L_gameOf 4 := ⟨zG.p [935, 936, 62, 937] (by decide +kernel) (by decide +kernel), ⟨by decide, by decide, by decide +kernel⟩, by decide⟩
theorem l_L_70 : zLkV RL 70 md_X6_gameOf 2 := ⟨zG.p [938, 687, 688, 63, 689] (by decide +kernel) (by decide +kernel), ⟨by decide, by decide, by decide +kernel⟩, by decide⟩
theorem l_L_173 : zLkH RL 173 md_L_count 3 := ⟨zG.p [939, 940, 62, 941] (by decide +kernel) (by decide +kernel), ⟨by decide, by decide, by decide +kernel⟩, by decide⟩
theorem l_L_73 : zLkV RL 73 md_X6_count 1 := ⟨zG.p [942, 465, 466, 63, 467] (by decide +kernel) (by decide +kernel), ⟨by decide, by decide, by decide +kernel⟩, by decide⟩
theorem l_L_176 : zLkH RL 176 md_L_setting 3 := ⟨zG.p [943, 944, 62, 945] (by decide +kernel) (by decide +kernel), ⟨by decide, by decide, by decide +kernel⟩, by decide⟩
theorem l_L_76 : zLkV RL 76 md_X6_setting 1 := ⟨zG.p [946, 947, 948, 63, 949] (by decide +kernel) (by decide +kernel), ⟨by decide, by decide, by decide +kernel⟩, by decide⟩
theorem l_L_179 : zLkH RL 179 md_L_whyNot 5 := ⟨zG.p [950, 951, 62, 952] (by decide +kernel) (by decide +kernel), ⟨by decide, by decide, by decide +kernel⟩, by decide⟩
theorem l_L_79 : zLkV RL 79 md_X6_whyNot 3 := ⟨zG.p [953, 954, 955, 63, 956] (by decide +kernel) (by decide +kernel), ⟨by decide, by decide, by decide +kernel⟩, by decide⟩
theorem l_L_182 : zLkH RL 182 md_L_ifClaimed 4 := ⟨zG.p [957, 958, 62, 959] (by decide +kernel) (by decide +kernel), ⟨by decide, by decide, by decide +kernel⟩, by decide⟩
theorem l_L_82 : zLkV RL 82 md_X6_ifClaimed 2 := ⟨zG.p [960, 603, 604, 63, 605] (by decide +kernel) (by decide +kernel), ⟨by decide, by decide, by decide +kernel⟩, by decide⟩
theorem l_L_185 : zLkH RL 185 md_L_missing 5 := ⟨zG.p [961, 962, 62, 963] (by decide +kernel) (by decide +kernel), ⟨by decide, by decide, by decide +kernel⟩, by decide⟩
theorem l_L_85 : zLkV RL 85 md_X6_missing 3 := ⟨zG.p [964, 644, 645, 63, 646] (by decide +kernel) (by decide +kernel), ⟨by decide, by decide, by decide +kernel⟩, by decide⟩
theorem l_L_188 : zLkH RL 188 md_L_fullAt 4 := ⟨zG.p [965, 966, 62, 967] (by decide +kernel) (by decide +kernel), ⟨by decide, by decide, by decide +kernel⟩, by decide⟩
theorem l_L_88 : zLkV RL 88 md_X6_fullAt 2 := ⟨zG.p [968, 662, 663, 63, 664] (by decide +kernel) (by decide +kernel), ⟨by decide, by decide, by decide +kernel⟩, by decide⟩
theorem l_L_195 : zLkH RL 195 md_L_next 3 := ⟨zG.p [969, 970, 62, 971] (by decide +kernel) (by decide +kernel), ⟨by decide, by decide, by decide +kernel⟩, by decide⟩
theorem l_L_91 : zLkV RL 91 md_X6_next 1 := ⟨zG.p [972, 709, 710, 63, 711] (by decide +kernel) (by decide +kernel), ⟨by decide, by decide, by decide +kernel⟩, by decide⟩
theorem l_L_97 : zLkI RL 97 md_X7_init 0 := ⟨zG.p [975, 976, 72, 977] (by decide +kernel) (by decide +kernel), ⟨by decide, by decide, by decide +kernel⟩, by decide, rfl, rfl⟩
theorem l_X7_1 : zG [.methodLink RX7 1 Lib.objectInit, .instanceMethod Lib.objectInit, .code Lib.objectInit ⟨#[0xb1]⟩ 1 none] := zG.p [978, 89, 90] (by decide +kernel) (by decide +kernel)
theorem l_L_104 : zLkV RL 104 md_X7_thrown 0 := ⟨zG.p [999, 1000, 1001, 72, 1002] (by decide +kernel) (by decide +kernel), ⟨by decide, by decide, by decide +kernel⟩, by decide⟩
theorem l_L_103 : zLkV RL 103 md_X7_put 3 := ⟨zG.p [1003, 1004, 1005, 72, 1006] (by decide +kernel) (by decide +kernel), ⟨by decide, by decide, by decide +kernel⟩, by decide⟩
theorem l_X7_50 : zLkS RX7 50 md_X7_isCard 1 := ⟨zG.p [1007, 1008, 72, 1009] (by decide +kernel) (by decide +kernel), ⟨by decide, by decide, by decide +kernel⟩, by decide⟩
theorem l_X7_32 : zLkS RX7 32 md_X7_in 3 := ⟨zG.p [1010, 1011, 72, 1012] (by decide +kernel) (by decide +kernel), ⟨by decide, by decide, by decide +kernel⟩, by decide⟩
theorem l_X7_54 : zLkS RX7 54 md_X7_isRow 1 := ⟨zG.p [1013, 1014, 72, 1015] (by decide +kernel) (by decide +kernel), ⟨by decide, by decide, by decide +kernel⟩, by decide⟩
theorem l_X7_57 : zLkS RX7 57 md_X7_isNumber 1 := ⟨zG.p [1016, 1017, 72, 1018] (by decide +kernel) (by decide +kernel), ⟨by decide, by decide, by decide +kernel⟩, by decide⟩
theorem l_X7_60 : zLkV RX7 60 md_X7_goes 3 := ⟨zG.p [1019, 1021, 20, 72, 1022] (by decide +kernel) (by decide +kernel), ⟨by decide, by decide, by decide +kernel⟩, by decide⟩
theorem l_X7_64 : zLkV RX7 64 md_X7_saves 0 := ⟨zG.p [1023, 1025, 21, 72, 1026] (by decide +kernel) (by decide +kernel), ⟨by decide, by decide, by decide +kernel⟩, by decide⟩
theorem l_X7_28 : zLkV RX7 28 md_X7_copies 2 := ⟨zG.p [1027, 1029, 22, 72, 1030] (by decide +kernel) (by decide +kernel), ⟨by decide, by decide, by decide +kernel⟩, by decide⟩
theorem l_X7_67 : zLkV RX7 67 md_X7_puts 3 := ⟨zG.p [1031, 1033, 23, 72, 1034] (by decide +kernel) (by decide +kernel), ⟨by decide, by decide, by decide +kernel⟩, by decide⟩
theorem l_X7_47 : zLkV RX7 47 md_X7_wrong 3 := ⟨zG.p [1035, 1037, 24, 72, 1038] (by decide +kernel) (by decide +kernel), ⟨by decide, by decide, by decide +kernel⟩, by decide⟩
theorem l_X7_36 : zLkS RX7 36 md_X7_column 1 := ⟨zG.p [1039, 1040, 72, 1041] (by decide +kernel) (by decide +kernel), ⟨by decide, by decide, by decide +kernel⟩, by decide⟩
theorem l_X7_44 : zLkV RX7 44 md_X7_numberAt 3 := ⟨zG.p [1042, 1044, 25, 72, 1045] (by decide +kernel) (by decide +kernel), ⟨by decide, by decide, by decide +kernel⟩, by decide⟩
theorem l_X7_40 : zLkV RX7 40 md_X7_ofRow 3 := ⟨zG.p [1046, 1048, 26, 72, 1049] (by decide +kernel) (by decide +kernel), ⟨by decide, by decide, by decide +kernel⟩, by decide⟩
theorem l_L_110 : zLkV RL 110 md_X7_take 1 := ⟨zG.p [1050, 1051, 1052, 72, 1053] (by decide +kernel) (by decide +kernel), ⟨by decide, by decide, by decide +kernel⟩, by decide⟩
theorem l_L_114 : zLkV RL 114 md_X7_fill 2 := ⟨zG.p [1054, 1055, 1056, 72, 1057] (by decide +kernel) (by decide +kernel), ⟨by decide, by decide, by decide +kernel⟩, by decide⟩
theorem l_X7_70 : zLkV RX7 70 md_X7_inBook 0 := ⟨zG.p [1058, 1060, 27, 72, 1061] (by decide +kernel) (by decide +kernel), ⟨by decide, by decide, by decide +kernel⟩, by decide⟩
theorem l_X7_74 : zLkV RX7 74 md_X7_lot 2 := ⟨zG.p [1062, 1064, 28, 72, 1065] (by decide +kernel) (by decide +kernel), ⟨by decide, by decide, by decide +kernel⟩, by decide⟩
theorem l_X7_78 : zLkV RX7 78 md_X7_free 1 := ⟨zG.p [1066, 1068, 29, 72, 1069] (by decide +kernel) (by decide +kernel), ⟨by decide, by decide, by decide +kernel⟩, by decide⟩
theorem l_L_117 : zLkV RL 117 md_X7_buy 1 := ⟨zG.p [1070, 1071, 1072, 72, 1073] (by decide +kernel) (by decide +kernel), ⟨by decide, by decide, by decide +kernel⟩, by decide⟩
theorem l_X7_84 : zLkV RX7 84 md_X7_canBuy 1 := ⟨zG.p [1074, 1076, 30, 72, 1077] (by decide +kernel) (by decide +kernel), ⟨by decide, by decide, by decide +kernel⟩, by decide⟩
theorem l_X7_81 : zLkV RX7 81 md_X7_isWhole 1 := ⟨zG.p [1078, 1080, 31, 72, 1081] (by decide +kernel) (by decide +kernel), ⟨by decide, by decide, by decide +kernel⟩, by decide⟩
theorem l_X7_87 : zLkV RX7 87 md_X7_buys 1 := ⟨zG.p [1082, 1084, 32, 72, 1085] (by decide +kernel) (by decide +kernel), ⟨by decide, by decide, by decide +kernel⟩, by decide⟩
theorem l_L_120 : zLkV RL 120 md_X7_seed 1 := ⟨zG.p [1086, 1087, 1088, 72, 1089] (by decide +kernel) (by decide +kernel), ⟨by decide, by decide, by decide +kernel⟩, by decide⟩
theorem l_L_123 : zLkV RL 123 md_X7_set 2 := ⟨zG.p [1090, 1091, 1092, 72, 1093] (by decide +kernel) (by decide +kernel), ⟨by decide, by decide, by decide +kernel⟩, by decide⟩
theorem l_L_126 : zLkV RL 126 md_X7_draw 1 := ⟨zG.p [1094, 1095, 1096, 72, 1097] (by decide +kernel) (by decide +kernel), ⟨by decide, by decide, by decide +kernel⟩, by decide⟩
theorem l_X7_93 : zLkV RX7 93 md_X7_drawsAll 1 := ⟨zG.p [1098, 1100, 33, 72, 1101] (by decide +kernel) (by decide +kernel), ⟨by decide, by decide, by decide +kernel⟩, by decide⟩
theorem l_X7_90 : zLkV RX7 90 md_X7_draws 1 := ⟨zG.p [1102, 1104, 34, 72, 1105] (by decide +kernel) (by decide +kernel), ⟨by decide, by decide, by decide +kernel⟩, by decide⟩
theorem l_L_129 : zLkV RL 129 md_X7_claim 2 := ⟨zG.p [1106, 1107, 1108, 72, 1109] (by decide +kernel) (by decide +kernel), ⟨by decide, by decide, by decide +kernel⟩, by decide⟩
theorem l_X7_109 : zLkV RX7 109 md_X7_claims 2 := ⟨zG.p [1110, 1112, 35, 72, 1113] (by decide +kernel) (by decide +kernel), ⟨by decide, by decide, by decide +kernel⟩, by decide⟩
theorem l_X7_106 : zLkV RX7 106 md_X7_why 2 := ⟨zG.p [1114, 1116, 36, 72, 1117] (by decide +kernel) (by decide +kernel), ⟨by decide, by decide, by decide +kernel⟩, by decide⟩
theorem l_X7_100 : zLkV RX7 100 md_X7_holds 3 := ⟨zG.p [1118, 1120, 37, 72, 1121] (by decide +kernel) (by decide +kernel), ⟨by decide, by decide, by decide +kernel⟩, by decide⟩
theorem l_X7_96 : zLkV RX7 96 md_X7_isCorner 2 := ⟨zG.p [1122, 1124, 38, 72, 1125] (by decide +kernel) (by decide +kernel), ⟨by decide, by decide, by decide +kernel⟩, by decide⟩
theorem l_X7_103 : zLkV RX7 103 md_X7_isByLast 2 := ⟨zG.p [1126, 1128, 39, 72, 1129] (by decide +kernel) (by decide +kernel), ⟨by decide, by decide, by decide +kernel⟩, by decide⟩
theorem l_L_133 : zLkV RL 133 md_X7_end 0 := ⟨zG.p [1130, 1131, 1132, 72, 1133] (by decide +kernel) (by decide +kernel), ⟨by decide, by decide, by decide +kernel⟩, by decide⟩
theorem l_X7_112 : zLkV RX7 112 md_X7_winners 1 := ⟨zG.p [1134, 1136, 40, 72, 1137] (by decide +kernel) (by decide +kernel), ⟨by decide, by decide, by decide +kernel⟩, by decide⟩
theorem l_X7_118 : zLkV RX7 118 md_X7_each 1 := ⟨zG.p [1138, 1140, 41, 72, 1141] (by decide +kernel) (by decide +kernel), ⟨by decide, by decide, by decide +kernel⟩, by decide⟩
theorem l_X7_115 : zLkS RX7 115 md_X7_bits 1 := ⟨zG.p [1142, 1143, 72, 1144] (by decide +kernel) (by decide +kernel), ⟨by decide, by decide, by decide +kernel⟩, by decide⟩
theorem l_L_136 : zLkV RL 136 md_X7_append 1 := ⟨zG.p [1145, 1146, 1147, 72, 1148] (by decide +kernel) (by decide +kernel), ⟨by decide, by decide, by decide +kernel⟩, by decide⟩
theorem l_L_140 : zLkV RL 140 md_X7_clearBuffer 0 := ⟨zG.p [1149, 1150, 1151, 72, 1152] (by decide +kernel) (by decide +kernel), ⟨by decide, by decide, by decide +kernel⟩, by decide⟩
theorem l_L_144 : zLkV RL 144 md_X7_firstError 0 := ⟨zG.p [1153, 1154, 1155, 72, 1156] (by decide +kernel) (by decide +kernel), ⟨by decide, by decide, by decide +kernel⟩, by decide⟩
theorem l_X7_134 : zLkV RX7 134 md_X7_error 0 := ⟨zG.p [1157, 1159, 42, 72, 1160] (by decide +kernel) (by decide +kernel), ⟨by decide, by decide, by decide +kernel⟩, by decide⟩
theorem l_X7_131 : zLkV RX7 131 md_X7_orderEnd 1 := ⟨zG.p [1161, 1163, 43, 72, 1164] (by decide +kernel) (by decide +kernel), ⟨by decide, by decide, by decide +kernel⟩, by decide⟩
theorem l_X7_124 : zLkS RX7 124 md_X7_greatest 3 := ⟨zG.p [1165, 1166, 72, 1167] (by decide +kernel) (by decide +kernel), ⟨by decide, by decide, by decide +kernel⟩, by decide⟩
theorem l_X7_128 : zLkS RX7 128 md_X7_leastFigure 3 := ⟨zG.p [1168, 1169, 72, 1170] (by decide +kernel) (by decide +kernel), ⟨by decide, by decide, by decide +kernel⟩, by decide⟩
theorem l_L_148 : zLkV RL 148 md_X7_run 0 := ⟨zG.p [1171, 1172, 1173, 72, 1174] (by decide +kernel) (by decide +kernel), ⟨by decide, by decide, by decide +kernel⟩, by decide⟩
theorem l_X7_140 : zLkV RX7 140 md_X7_does 1 := ⟨zG.p [1175, 1177, 44, 72, 1178] (by decide +kernel) (by decide +kernel), ⟨by decide, by decide, by decide +kernel⟩, by decide⟩
theorem l_X7_137 : zLkV RX7 137 md_X7_figure 1 := ⟨zG.p [1179, 1181, 45, 72, 1182] (by decide +kernel) (by decide +kernel), ⟨by decide, by decide, by decide +kernel⟩, by decide⟩
theorem l_L_151 : zLkV RL 151 md_X7_keep 1 := ⟨zG.p [1183, 1184, 1185, 72, 1186] (by decide +kernel) (by decide +kernel), ⟨by decide, by decide, by decide +kernel⟩, by decide⟩
theorem l_L_154 : zLkV RL 154 md_X7_goBack 1 := ⟨zG.p [1187, 1188, 1189, 72, 1190] (by decide +kernel) (by decide +kernel), ⟨by decide, by decide, by decide +kernel⟩, by decide⟩
theorem l_L_157 : zLkV RL 157 md_X7_undo 0 := ⟨zG.p [1191, 1192, 1193, 72, 1194] (by decide +kernel) (by decide +kernel), ⟨by decide, by decide, by decide +kernel⟩, by decide⟩
theorem l_L_160 : zLkV RL 160 md_X7_at 3 := ⟨zG.p [1195, 1196, 1197, 72, 1198] (by decide +kernel) (by decide +kernel), ⟨by decide, by decide, by decide +kernel⟩, by decide⟩
theorem l_L_163 : zLkV RL 163 md_X7_cardOf 2 := ⟨zG.p [1199, 1200, 1201, 72, 1202] (by decide +kernel) (by decide +kernel), ⟨by decide, by decide, by decide +kernel⟩, by decide⟩
theorem l_X7_149 : zLkV RX7 149 md_X7_cards 2 := ⟨zG.p [1203, 1205, 46, 72, 1206] (by decide +kernel) (by decide +kernel), ⟨by decide, by decide, by decide +kernel⟩, by decide⟩
theorem l_X7_143 : zLkV RX7 143 md_X7_ofCard 2 := ⟨zG.p [1207, 1209, 47, 72, 1210] (by decide +kernel) (by decide +kernel), ⟨by decide, by decide, by decide +kernel⟩, by decide⟩
theorem l_X7_146 : zLkV RX7 146 md_X7_fullRows 1 := ⟨zG.p [1211, 1213, 48, 72, 1214] (by decide +kernel) (by decide +kernel), ⟨by decide, by decide, by decide +kernel⟩, by decide⟩
theorem l_L_166 : zLkV RL 166 md_X7_numberOf 2 := ⟨zG.p [1215, 1216, 1217, 72, 1218] (by decide +kernel) (by decide +kernel), ⟨by decide, by decide, by decide +kernel⟩, by decide⟩
theorem l_X7_152 : zLkV RX7 152 md_X7_numbers 2 := ⟨zG.p [1219, 1221, 49, 72, 1222] (by decide +kernel) (by decide +kernel), ⟨by decide, by decide, by decide +kernel⟩, by decide⟩
theorem l_L_169 : zLkV RL 169 md_X7_call 2 := ⟨zG.p [1223, 1224, 1225, 72, 1226] (by decide +kernel) (by decide +kernel), ⟨by decide, by decide, by decide +kernel⟩, by decide⟩
theorem l_X7_155 : zLkV RX7 155 md_X7_calls 2 := ⟨zG.p [1227, 1229, 50, 72, 1230] (by decide +kernel) (by decide +kernel), ⟨by decide, by decide, by decide +kernel⟩, by decide⟩
theorem l_L_172 : zLkV RL 172 md_X7_gameOf 2 := ⟨zG.p [1231, 1232, 1233, 72, 1234] (by decide +kernel) (by decide +kernel), ⟨by decide, by decide, by decide +kernel⟩, by decide⟩
theorem l_X7_158 : zLkV RX7 158 md_X7_games 2 := ⟨zG.p [1235, 1237, 51, 72, 1238] (by decide +kernel) (by decide +kernel), ⟨by decide, by decide, by decide +kernel⟩, by decide⟩
theorem l_L_175 : zLkV RL 175 md_X7_count 1 := ⟨zG.p [1239, 1240, 1241, 72, 1242] (by decide +kernel) (by decide +kernel), ⟨by decide, by decide, by decide +kernel⟩, by decide⟩
theorem l_X7_165 : zLkV RX7 165 md_X7_counted 1 := ⟨zG.p [1243, 1245, 52, 72, 1246] (by decide +kernel) (by decide +kernel), ⟨by decide, by decide, by decide +kernel⟩, by decide⟩
theorem l_X7_161 : zLkV RX7 161 md_X7_cardsThat 1 := ⟨zG.p [1247, 1249, 53, 72, 1250] (by decide +kernel) (by decide +kernel), ⟨by decide, by decide, by decide +kernel⟩, by decide⟩
theorem l_L_178 : zLkV RL 178 md_X7_setting 1 := ⟨zG.p [1251, 1252, 1253, 72, 1254] (by decide +kernel) (by decide +kernel), ⟨by decide, by decide, by decide +kernel⟩, by decide⟩
theorem l_L_181 : zLkV RL 181 md_X7_whyNot 3 := ⟨zG.p [1255, 1256, 1257, 72, 1258] (by decide +kernel) (by decide +kernel), ⟨by decide, by decide, by decide +kernel⟩, by decide⟩
theorem l_L_184 : zLkV RL 184 md_X7_ifClaimed 2 := ⟨zG.p [1259, 1260, 1261, 72, 1262] (by decide +kernel) (by decide +kernel), ⟨by decide, by decide, by decide +kernel⟩, by decide⟩
theorem l_X7_168 : zLkV RX7 168 md_X7_claimed 2 := ⟨zG.p [1263, 1265, 54, 72, 1266] (by decide +kernel) (by decide +kernel), ⟨by decide, by decide, by decide +kernel⟩, by decide⟩
theorem l_L_187 : zLkV RL 187 md_X7_missing 3 := ⟨zG.p [1267, 1268, 1269, 72, 1270] (by decide +kernel) (by decide +kernel), ⟨by decide, by decide, by decide +kernel⟩, by decide⟩
theorem l_X7_175 : zLkV RX7 175 md_X7_misses 3 := ⟨zG.p [1271, 1273, 55, 72, 1274] (by decide +kernel) (by decide +kernel), ⟨by decide, by decide, by decide +kernel⟩, by decide⟩
theorem l_X7_171 : zLkV RX7 171 md_X7_lacks 3 := ⟨zG.p [1275, 1277, 56, 72, 1278] (by decide +kernel) (by decide +kernel), ⟨by decide, by decide, by decide +kernel⟩, by decide⟩
theorem l_L_190 : zLkV RL 190 md_X7_fullAt 2 := ⟨zG.p [1279, 1280, 1281, 72, 1282] (by decide +kernel) (by decide +kernel), ⟨by decide, by decide, by decide +kernel⟩, by decide⟩
theorem l_X7_181 : zLkV RX7 181 md_X7_full 1 := ⟨zG.p [1283, 1285, 57, 72, 1286] (by decide +kernel) (by decide +kernel), ⟨by decide, by decide, by decide +kernel⟩, by decide⟩
theorem l_X7_178 : zLkV RX7 178 md_X7_empties 0 := ⟨zG.p [1287, 1289, 58, 72, 1290] (by decide +kernel) (by decide +kernel), ⟨by decide, by decide, by decide +kernel⟩, by decide⟩
theorem l_L_194 : zLkV RL 194 md_X7_firstFull 0 := ⟨zG.p [1291, 1292, 1293, 72, 1294] (by decide +kernel) (by decide +kernel), ⟨by decide, by decide, by decide +kernel⟩, by decide⟩
theorem l_X7_184 : zLkV RX7 184 md_X7_first 0 := ⟨zG.p [1295, 1297, 59, 72, 1298] (by decide +kernel) (by decide +kernel), ⟨by decide, by decide, by decide +kernel⟩, by decide⟩
theorem l_L_197 : zLkV RL 197 md_X7_next 1 := ⟨zG.p [1299, 1300, 1301, 72, 1302] (by decide +kernel) (by decide +kernel), ⟨by decide, by decide, by decide +kernel⟩, by decide⟩
theorem l_X7_187 : zLkV RX7 187 md_X7_nextBall 1 := ⟨zG.p [1303, 1305, 60, 72, 1306] (by decide +kernel) (by decide +kernel), ⟨by decide, by decide, by decide +kernel⟩, by decide⟩
theorem l_L_202 : zLkV RL 202 md_X7_drawnShare 0 := ⟨zG.p [1307, 1308, 1309, 72, 1310] (by decide +kernel) (by decide +kernel), ⟨by decide, by decide, by decide +kernel⟩, by decide⟩
theorem l_X7_190 : zLkV RX7 190 md_X7_share 0 := ⟨zG.p [1311, 1313, 61, 72, 1314] (by decide +kernel) (by decide +kernel), ⟨by decide, by decide, by decide +kernel⟩, by decide⟩
theorem l_L_207 : zLkV RL 207 md_X7_digest 0 := ⟨zG.p [1315, 1316, 1317, 72, 1318] (by decide +kernel) (by decide +kernel), ⟨by decide, by decide, by decide +kernel⟩, by decide⟩
theorem l_X7_198 : zLkS RX7 198 md_Jxe99ae_doubleToLongBits_ccdee 1 := ⟨zG.p [1321, 1322, 82, 1323] (by decide +kernel) (by decide +kernel), ⟨by decide, by decide, by decide +kernel⟩, by decide⟩
theorem l_Jxe99ae_122 : zLkS RJxe99ae 122 md_Jxe99ae_isNaN_b9ae7 1 := ⟨zG.p [1324, 1325, 82, 1326] (by decide +kernel) (by decide +kernel), ⟨by decide, by decide, by decide +kernel⟩, by decide⟩
theorem l_X3_11 : zLkIN RX3 11 md_X2_init 0 := ⟨zG.p [130, 68, 131] (by decide +kernel) (by decide +kernel), List.mem_of_getElem? (i := 129) (by decide +kernel), ⟨by decide, by decide, by decide +kernel⟩, by decide, rfl, rfl⟩
theorem l_X0_27 : zLkIN RX0 27 md_X4_init 0 := ⟨zG.p [197, 69, 198] (by decide +kernel) (by decide +kernel), List.mem_of_getElem? (i := 196) (by decide +kernel), ⟨by decide, by decide, by decide +kernel⟩, by decide, rfl, rfl⟩
theorem l_X6_29 : zLkIN RX6 29 md_X5_init 0 := ⟨zG.p [266, 71, 267] (by decide +kernel) (by decide +kernel), List.mem_of_getElem? (i := 265) (by decide +kernel), ⟨by decide, by decide, by decide +kernel⟩, by decide, rfl, rfl⟩
theorem l_X6_36 : zLkIN RX6 36 md_X2_init 0 := ⟨zG.p [130, 68, 131] (by decide +kernel) (by decide +kernel), List.mem_of_getElem? (i := 280) (by decide +kernel), ⟨by decide, by decide, by decide +kernel⟩, by decide, rfl, rfl⟩
theorem l_X5_37 : zLkSN RX5 37 md_X6_isCard 1 := ⟨zG.p [394, 63, 395] (by decide +kernel) (by decide +kernel), List.mem_of_getElem? (i := 393) (by decide +kernel), ⟨by decide, by decide, by decide +kernel⟩, by decide⟩
theorem l_X5_41 : zLkSN RX5 41 md_X6_isGame 1 := ⟨zG.p [397, 63, 398] (by decide +kernel) (by decide +kernel), List.mem_of_getElem? (i := 396) (by decide +kernel), ⟨by decide, by decide, by decide +kernel⟩, by decide⟩
theorem l_X5_44 : zLkSN RX5 44 md_X6_isRow 1 := ⟨zG.p [400, 63, 401] (by decide +kernel) (by decide +kernel), List.mem_of_getElem? (i := 399) (by decide +kernel), ⟨by decide, by decide, by decide +kernel⟩, by decide⟩
theorem l_X5_47 : zLkSN RX5 47 md_X6_isNumber 1 := ⟨zG.p [403, 63, 404] (by decide +kernel) (by decide +kernel), List.mem_of_getElem? (i := 402) (by decide +kernel), ⟨by decide, by decide, by decide +kernel⟩, by decide⟩
theorem l_X1_34 : zLkSN RX1 34 md_X6_isNumber 1 := ⟨zG.p [403, 63, 404] (by decide +kernel) (by decide +kernel), List.mem_of_getElem? (i := 442) (by decide +kernel), ⟨by decide, by decide, by decide +kernel⟩, by decide⟩
theorem l_X0_82 : zLkSN RX0 82 md_X6_lotAfter 1 := ⟨zG.p [416, 63, 417] (by decide +kernel) (by decide +kernel), List.mem_of_getElem? (i := 789) (by decide +kernel), ⟨by decide, by decide, by decide +kernel⟩, by decide⟩
theorem k_L_8 : zG [.classLink RL 8 "TombolaBooks"] := zG.p [83] (by decide +kernel) (by decide +kernel)
theorem nc_L_8 : zNewC RL 8 6 9 [.null, .null, .null, .null, .int (jI 0), .int (jI 0), .null, .null, .null] := ⟨_, _, tyX6, cl_6, zG.p [83, 84, 63] (by decide +kernel) (by decide +kernel), tyX6_ok, by intro j hj; match j, hj with
  | 0, _ => rfl
  | 1, _ => rfl
  | 2, _ => rfl
  | 3, _ => rfl
  | 4, _ => rfl
  | 5, _ => rfl
  | 6, _ => rfl
  | 7, _ => rfl
  | 8, _ => rfl, by decide +kernel⟩
theorem k_X6_7 : zG [.classLink RX6 7 "TombolaBooks$Book"] := zG.p [91] (by decide +kernel) (by decide +kernel)
theorem nc_X6_7 : zNewC RX6 7 0 5 [.null, .null, .null, .null, .int (jI 0)] := ⟨_, _, tyX0, cl_0, zG.p [91, 92, 64] (by decide +kernel) (by decide +kernel), tyX0_ok, by intro j hj; match j, hj with
  | 0, _ => rfl
  | 1, _ => rfl
  | 2, _ => rfl
  | 3, _ => rfl
  | 4, _ => rfl, by decide +kernel⟩
theorem k_X0_9 : zG [.classLink RX0 9 "TombolaBooks$Cards"] := zG.p [97] (by decide +kernel) (by decide +kernel)
theorem nc_X0_9 : zNewC RX0 9 1 3 [.null, .null, .int (jI 0)] := ⟨_, _, tyX1, cl_1, zG.p [97, 98, 65] (by decide +kernel) (by decide +kernel), tyX1_ok, by intro j hj; match j, hj with
  | 0, _ => rfl
  | 1, _ => rfl
  | 2, _ => rfl, by decide +kernel⟩
theorem ac_int : zG [.arrayClass .int] := zG.p [120] (by decide +kernel) (by decide +kernel)
theorem k_X0_18 : zG [.classLink RX0 18 "TombolaBooks$Evening"] := zG.p [121] (by decide +kernel) (by decide +kernel)
theorem nc_X0_18 : zNewC RX0 18 3 10 [.null, .null, .null, .null, .null, .null, .null, .int (jI 0), .int (jI 0), .int (jI 0)] := ⟨_, _, tyX3, cl_3, zG.p [121, 122, 67] (by decide +kernel) (by decide +kernel), tyX3_ok, by intro j hj; match j, hj with
  | 0, _ => rfl
  | 1, _ => rfl
  | 2, _ => rfl
  | 3, _ => rfl
  | 4, _ => rfl
  | 5, _ => rfl
  | 6, _ => rfl
  | 7, _ => rfl
  | 8, _ => rfl
  | 9, _ => rfl, by decide +kernel⟩
theorem k_X3_9 : zG [.classLink RX3 9 "TombolaBooks$Drum"] := zG.p [127] (by decide +kernel) (by decide +kernel)
theorem nc_X3_9 : zNewC RX3 9 2 2 [.null, .int (jI 0)] := ⟨_, _, tyX2, cl_2, zG.p [127, 128, 68] (by decide +kernel) (by decide +kernel), tyX2_ok, by intro j hj; match j, hj with
  | 0, _ => rfl
  | 1, _ => rfl, by decide +kernel⟩
theorem k_X0_25 : zG [.classLink RX0 25 "TombolaBooks$Tally"] := zG.p [194] (by decide +kernel) (by decide +kernel)
theorem nc_X0_25 : zNewC RX0 25 4 9 [.null, .null, .int (jI 0), .int (jI 0), .int (jI 0), .int (jI 0), .int (jI 0), .int (jI 0), .int (jI 0)] := ⟨_, _, tyX4, cl_4, zG.p [194, 195, 69] (by decide +kernel) (by decide +kernel), tyX4_ok, by intro j hj; match j, hj with
  | 0, _ => rfl
  | 1, _ => rfl
  | 2, _ => rfl
  | 3, _ => rfl
  | 4, _ => rfl
  | 5, _ => rfl
  | 6, _ => rfl
  | 7, _ => rfl
  | 8, _ => rfl, by decide +kernel⟩
theorem sf_X0_40 : Cond.fieldLinkNest RX0 40 "TombolaBooks" "FIRST_VALUES" "[I" "TombolaBooks" ∈ lw_tbl := List.mem_of_getElem? (i := 236) (by decide +kernel)
theorem k_X6_27 : zG [.classLink RX6 27 "TombolaBooks$Text"] := zG.p [263] (by decide +kernel) (by decide +kernel)
theorem nc_X6_27 : zNewC RX6 27 5 2 [.null, .int (jI 0)] := ⟨_, _, tyX5, cl_5, zG.p [263, 264, 71] (by decide +kernel) (by decide +kernel), tyX5_ok, by intro j hj; match j, hj with
  | 0, _ => rfl
  | 1, _ => rfl, by decide +kernel⟩
theorem ac_boolean : zG [.arrayClass .boolean] := zG.p [278] (by decide +kernel) (by decide +kernel)
theorem k_X6_34 : zG [.classLink RX6 34 "TombolaBooks$Drum"] := zG.p [279] (by decide +kernel) (by decide +kernel)
theorem nc_X6_34 : zNewC RX6 34 2 2 [.null, .int (jI 0)] := ⟨_, _, tyX2, cl_2, zG.p [279, 128, 68] (by decide +kernel) (by decide +kernel), tyX2_ok, by intro j hj; match j, hj with
  | 0, _ => rfl
  | 1, _ => rfl, by decide +kernel⟩
theorem k_J6_265 : zG [.constant RJ6 265 1431655765] := zG.p [352] (by decide +kernel) (by decide +kernel)
theorem k_J6_266 : zG [.constant RJ6 266 858993459] := zG.p [353] (by decide +kernel) (by decide +kernel)
theorem k_J6_267 : zG [.constant RJ6 267 252645135] := zG.p [354] (by decide +kernel) (by decide +kernel)
theorem sf_X0_171 : Cond.fieldLinkNest RX0 171 "TombolaBooks" "HUNDREDTHS" "[I" "TombolaBooks" ∈ lw_tbl := List.mem_of_getElem? (i := 355) (by decide +kernel)
theorem k_X6_279 : zG [.constantLong RX6 279 3307] := zG.p [462] (by decide +kernel) (by decide +kernel)
theorem k_X6_281 : zG [.constantLong RX6 281 31] := zG.p [463] (by decide +kernel) (by decide +kernel)
theorem k_X6_352 : zG [.classLink RX6 352 "java/lang/IllegalArgumentException"] := zG.p [471] (by decide +kernel) (by decide +kernel)
theorem k_X6_345 : zG [.classLink RX6 345 "java/lang/IndexOutOfBoundsException"] := zG.p [569] (by decide +kernel) (by decide +kernel)
theorem k_X6_339 : zG [.constantLong RX6 339 1023] := zG.p [716] (by decide +kernel) (by decide +kernel)
theorem k_X6_341 : zG [.constantDouble RX6 341 4611686018427387904] := zG.p [717] (by decide +kernel) (by decide +kernel)
theorem k_X6_343 : zG [.constantDouble RX6 343 4841369599423283200] := zG.p [718] (by decide +kernel) (by decide +kernel)
theorem k_L_13 : zG [.classLink RL 13 "java/lang/IndexOutOfBoundsException"] := zG.p [727] (by decide +kernel) (by decide +kernel)
theorem k_L_15 : zG [.classLink RL 15 "java/lang/IllegalArgumentException"] := zG.p [728] (by decide +kernel) (by decide +kernel)
theorem k_L_21 : zG [.classLink RL 21 "java/lang/IllegalStateException"] := zG.p [746] (by decide +kernel) (by decide +kernel)
theorem k_X6_357 : zG [.classLink RX6 357 "java/lang/IllegalStateException"] := zG.p [754] (by decide +kernel) (by decide +kernel)
theorem sf_X6_112 : zG [.fieldLink RX6 112 "TombolaBooks" "LEAST_VALUES" "[I"] := zG.p [836] (by decide +kernel) (by decide +kernel)
theorem sf_X6_115 : zG [.fieldLink RX6 115 "TombolaBooks" "GREATEST_VALUES" "[I"] := zG.p [838] (by decide +kernel) (by decide +kernel)
theorem k_L_95 : zG [.classLink RL 95 "TombolaBooksModel"] := zG.p [973] (by decide +kernel) (by decide +kernel)
theorem nc_L_95 : zNewC RL 95 7 6 [.null, .int (jI 0), .null, .int (jI 0), .null, .int (jI 0)] := ⟨_, _, tyX7, cl_7, zG.p [973, 974, 72] (by decide +kernel) (by decide +kernel), tyX7_ok, by intro j hj; match j, hj with
  | 0, _ => rfl
  | 1, _ => rfl
  | 2, _ => rfl
  | 3, _ => rfl
  | 4, _ => rfl
  | 5, _ => rfl, by decide +kernel⟩
theorem ac_char : zG [.arrayClass .char] := zG.p [998] (by decide +kernel) (by decide +kernel)
theorem k_X7_194 : zG [.constantLong RX7 194 3307] := zG.p [1319] (by decide +kernel) (by decide +kernel)
theorem k_X7_196 : zG [.constantLong RX7 196 31] := zG.p [1320] (by decide +kernel) (by decide +kernel)
theorem k_Jxe99ae_137 : zG [.constantLong RJxe99ae 137 9221120237041090560] := zG.p [1330] (by decide +kernel) (by decide +kernel)
theorem ac_long : zG [.arrayClass .long] := zG.p [1331] (by decide +kernel) (by decide +kernel)
theorem ao_Book : Cond.arrayOver (.object "TombolaBooks$Book") ∈ lw_tbl := List.mem_of_getElem? (i := 262) (by decide +kernel)
