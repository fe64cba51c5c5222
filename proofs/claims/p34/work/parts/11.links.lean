/-! method records and facts of links, printed by program -/
def md_X0_init : zMd := (yX0_init, cX0_init, 1, none, [])
def md_X0_copyFrom : zMd := (yX0_copyFrom, cX0_copyFrom, 2, none, [])
def md_X0_reasonAgainstPlace : zMd := (yX0_reasonAgainstPlace, cX0_reasonAgainstPlace, 4, some .int, [])
def md_X0_place : zMd := (yX0_place, cX0_place, 4, some .int, [])
def md_X0_placeByLot : zMd := (yX0_placeByLot, cX0_placeByLot, 8, some .int, [])
def md_X0_firstRowFor : zMd := (yX0_firstRowFor, cX0_firstRowFor, 4, some .int, [])
def md_X0_isForSale : zMd := (yX0_isForSale, cX0_isForSale, 2, some .boolean, [])
def md_X0_sell : zMd := (yX0_sell, cX0_sell, 2, some .int, [])
def md_X0_drawBalls : zMd := (yX0_drawBalls, cX0_drawBalls, 4, some .int, [])
def md_X0_reasonAgainstClaim : zMd := (yX0_reasonAgainstClaim, cX0_reasonAgainstClaim, 3, some .int, [])
def md_X0_isHeldByLastBall : zMd := (yX0_isHeldByLastBall, cX0_isHeldByLastBall, 4, some .boolean, [])
def md_X0_settleClaim : zMd := (yX0_settleClaim, cX0_settleClaim, 4, some .int, [])
def md_X0_prizeForEach : zMd := (yX0_prizeForEach, cX0_prizeForEach, 3, some .int, [])
def md_X0_payAndBeginAnew : zMd := (yX0_payAndBeginAnew, cX0_payAndBeginAnew, 5, some .int, [])
def md_X1_init : zMd := (yX1_init, cX1_init, 1, none, [])
def md_X1_copyFrom : zMd := (yX1_copyFrom, cX1_copyFrom, 2, none, [])
def md_X1_columnOf : zMd := (yX1_columnOf, cX1_columnOf, 1, some .int, [])
def md_X1_numberIn : zMd := (yX1_numberIn, cX1_numberIn, 3, some .int, [])
def md_X1_standsIn : zMd := (yX1_standsIn, cX1_standsIn, 3, some .boolean, [])
def md_X1_stand : zMd := (yX1_stand, cX1_stand, 3, none, [])
def md_X1_lift : zMd := (yX1_lift, cX1_lift, 2, none, [])
def md_X1_reasonAgainst : zMd := (yX1_reasonAgainst, cX1_reasonAgainst, 3, some .int, [])
def md_X1_breaksColumn : zMd := (yX1_breaksColumn, cX1_breaksColumn, 7, some .boolean, [])
def md_X1_rowSize : zMd := (yX1_rowSize, cX1_rowSize, 4, some .int, [])
def md_X1_cardSize : zMd := (yX1_cardSize, cX1_cardSize, 4, some .int, [])
def md_X1_isWhole : zMd := (yX1_isWhole, cX1_isWhole, 2, some .boolean, [])
def md_X1_wholeCards : zMd := (yX1_wholeCards, cX1_wholeCards, 3, some .int, [])
def md_X1_unmarkedInRow : zMd := (yX1_unmarkedInRow, cX1_unmarkedInRow, 5, some .int, [])
def md_X1_isUnmarked : zMd := (yX1_isUnmarked, cX1_isUnmarked, 2, some .boolean, [])
def md_X1_markedInCard : zMd := (yX1_markedInCard, cX1_markedInCard, 5, some .int, [])
def md_X1_isLine : zMd := (yX1_isLine, cX1_isLine, 3, some .boolean, [])
def md_X1_linesOf : zMd := (yX1_linesOf, cX1_linesOf, 5, some .int, [])
def md_X1_corner : zMd := (yX1_corner, cX1_corner, 7, some .int, [])
def md_X1_isCorner : zMd := (yX1_isCorner, cX1_isCorner, 3, some .boolean, [])
def md_X1_unmarkedOfGame : zMd := (yX1_unmarkedOfGame, cX1_unmarkedOfGame, 9, some .int, [])
def md_X1_unmarkedCorners : zMd := (yX1_unmarkedCorners, cX1_unmarkedCorners, 5, some .int, [])
def md_X1_onlyUnmarked : zMd := (yX1_onlyUnmarked, cX1_onlyUnmarked, 5, some .int, [])
def md_X1_firstUnmarkedCorner : zMd := (yX1_firstUnmarkedCorner, cX1_firstUnmarkedCorner, 4, some .int, [])
def md_X1_firstUnmarkedIn : zMd := (yX1_firstUnmarkedIn, cX1_firstUnmarkedIn, 4, some .int, [])
def md_X2_init : zMd := (yX2_init, cX2_init, 1, none, [])
def md_X2_copyFrom : zMd := (yX2_copyFrom, cX2_copyFrom, 2, none, [])
def md_X2_holdAll : zMd := (yX2_holdAll, cX2_holdAll, 2, none, [])
def md_X2_holdNumbersOutOf : zMd := (yX2_holdNumbersOutOf, cX2_holdNumbersOutOf, 3, none, [])
def md_X2_byLot : zMd := (yX2_byLot, cX2_byLot, 2, some .int, [])
def md_X2_takeOut : zMd := (yX2_takeOut, cX2_takeOut, 4, some .int, [])
def md_X3_init : zMd := (yX3_init, cX3_init, 1, none, [])
def md_X3_copyFrom : zMd := (yX3_copyFrom, cX3_copyFrom, 2, none, [])
def md_X3_begin : zMd := (yX3_begin, cX3_begin, 1, none, [])
def md_X3_isBought : zMd := (yX3_isBought, cX3_isBought, 2, some .boolean, [])
def md_X3_gamesWonBy : zMd := (yX3_gamesWonBy, cX3_gamesWonBy, 4, some .int, [])
def md_X3_lastDrawn : zMd := (yX3_lastDrawn, cX3_lastDrawn, 1, some .int, [])
def md_X3_tell : zMd := (yX3_tell, cX3_tell, 5, none, [])
def md_X4_init : zMd := (yX4_init, cX4_init, 1, none, [])
def md_X4_copyFrom : zMd := (yX4_copyFrom, cX4_copyFrom, 2, none, [])
def md_X4_takeIn : zMd := (yX4_takeIn, cX4_takeIn, 2, some .int, [])
def md_X4_closeEvening : zMd := (yX4_closeEvening, cX4_closeEvening, 2, none, [])
def md_X4_told : zMd := (yX4_told, cX4_told, 2, some .int, [])
def md_X5_init : zMd := (yX5_init, cX5_init, 1, none, [])
def md_X5_orderLength : zMd := (yX5_orderLength, cX5_orderLength, 1, some .int, [])
def md_X5_codeAt : zMd := (yX5_codeAt, cX5_codeAt, 2, some .int, [])
def md_X5_digitAt : zMd := (yX5_digitAt, cX5_digitAt, 2, some .int, [])
def md_X5_firstWrong : zMd := (yX5_firstWrong, cX5_firstWrong, 3, some .int, [])
def md_X5_tellsEvening : zMd := (yX5_tellsEvening, cX5_tellsEvening, 3, some .boolean, [])
def md_X5_fits : zMd := (yX5_fits, cX5_fits, 5, some .boolean, [])
def md_X6_init : zMd := (yX6_init, cX6_init, 2, none, [])
def md_X6_put : zMd := (yX6_put, cX6_put, 4, some .int, [])
def md_X6_take : zMd := (yX6_take, cX6_take, 3, some .int, [])
def md_X6_fill : zMd := (yX6_fill, cX6_fill, 3, some .int, [])
def md_X6_buy : zMd := (yX6_buy, cX6_buy, 2, some .int, [])
def md_X6_seed : zMd := (yX6_seed, cX6_seed, 3, some .int, [])
def md_X6_set : zMd := (yX6_set, cX6_set, 4, some .int, [])
def md_X6_draw : zMd := (yX6_draw, cX6_draw, 2, some .int, [])
def md_X6_claim : zMd := (yX6_claim, cX6_claim, 3, some .int, [])
def md_X6_end : zMd := (yX6_end, cX6_end, 1, some .int, [])
def md_X6_append : zMd := (yX6_append, cX6_append, 2, some .int, [])
def md_X6_run : zMd := (yX6_run, cX6_run, 4, some .int, [])
def md_X6_keep : zMd := (yX6_keep, cX6_keep, 2, some .int, [])
def md_X6_goBack : zMd := (yX6_goBack, cX6_goBack, 2, some .int, [])
def md_X6_undo : zMd := (yX6_undo, cX6_undo, 1, some .int, [])
def md_X6_at : zMd := (yX6_at, cX6_at, 4, some .int, [])
def md_X6_cardOf : zMd := (yX6_cardOf, cX6_cardOf, 5, some .int, [])
def md_X6_numberOf : zMd := (yX6_numberOf, cX6_numberOf, 4, some .int, [])
def md_X6_call : zMd := (yX6_call, cX6_call, 5, some .int, [])
def md_X6_gameOf : zMd := (yX6_gameOf, cX6_gameOf, 3, some .int, [])
def md_X6_count : zMd := (yX6_count, cX6_count, 2, some .int, [])
def md_X6_setting : zMd := (yX6_setting, cX6_setting, 2, some .int, [])
def md_X6_whyNot : zMd := (yX6_whyNot, cX6_whyNot, 4, some .int, [])
def md_X6_ifClaimed : zMd := (yX6_ifClaimed, cX6_ifClaimed, 3, some .int, [])
def md_X6_missing : zMd := (yX6_missing, cX6_missing, 6, some .int, [])
def md_X6_fullAt : zMd := (yX6_fullAt, cX6_fullAt, 3, some .int, [])
def md_X6_firstFull : zMd := (yX6_firstFull, cX6_firstFull, 5, some .int, [])
def md_X6_next : zMd := (yX6_next, cX6_next, 5, some .int, [])
def md_X6_drawnShare : zMd := (yX6_drawnShare, cX6_drawnShare, 4, some .double, [])
def md_X6_needPlace : zMd := (yX6_needPlace, cX6_needPlace, 1, none, [])
def md_X6_needValue : zMd := (yX6_needValue, cX6_needValue, 1, none, [])
def md_X6_needState : zMd := (yX6_needState, cX6_needState, 1, none, [])
def md_X6_isCard : zMd := (yX6_isCard, cX6_isCard, 1, some .boolean, [])
def md_X6_isRow : zMd := (yX6_isRow, cX6_isRow, 1, some .boolean, [])
def md_X6_isNumber : zMd := (yX6_isNumber, cX6_isNumber, 1, some .boolean, [])
def md_X6_isGame : zMd := (yX6_isGame, cX6_isGame, 1, some .boolean, [])
def md_X6_isSetting : zMd := (yX6_isSetting, cX6_isSetting, 1, some .boolean, [])
def md_X6_isSlot : zMd := (yX6_isSlot, cX6_isSlot, 1, some .boolean, [])
def md_X6_lotAfter : zMd := (yX6_lotAfter, cX6_lotAfter, 1, some .int, [])
def md_X6_save : zMd := (yX6_save, cX6_save, 1, none, [])
def md_X6_doOrder : zMd := (yX6_doOrder, cX6_doOrder, 5, some .boolean, [])
def md_X6_fullBallByBall : zMd := (yX6_fullBallByBall, cX6_fullBallByBall, 7, some .int, [])
def md_X6_layOrder : zMd := (yX6_layOrder, cX6_layOrder, 4, none, [])
def md_X6_lastCallInOrder : zMd := (yX6_lastCallInOrder, cX6_lastCallInOrder, 4, some .int, [])
def md_J6_bitCount_0f7a4 : zMd := (yJ6_bitCount_0f7a4, cJ6_bitCount_0f7a4, 1, some .int, [])
def md_J9_max_7cf53 : zMd := (yJ9_max_7cf53, cJ9_max_7cf53, 2, some .int, [])
def md_J9_min_7cf53 : zMd := (yJ9_min_7cf53, cJ9_min_7cf53, 2, some .int, [])
def md_J7_fill_53178 : zMd := (yJ7_fill_53178, cJ7_fill_53178, 4, none, [])
def md_L_cell : zMd := (yL_cell, cL_cell, 2, some .int, [])
def md_L_put : zMd := (yL_put, cL_put, 5, some .int, [(0, 7, 8, 15), (0, 7, 13, 18)])
def md_L_take : zMd := (yL_take, cL_take, 3, some .int, [(0, 5, 6, 18), (0, 5, 10, 25)])
def md_L_fill : zMd := (yL_fill, cL_fill, 4, some .int, [(0, 6, 7, 15), (0, 6, 11, 18), (0, 6, 15, 25)])
def md_L_buy : zMd := (yL_buy, cL_buy, 3, some .int, [(0, 5, 6, 15), (0, 5, 10, 25)])
def md_L_seed : zMd := (yL_seed, cL_seed, 3, some .int, [(0, 5, 6, 18)])
def md_L_set : zMd := (yL_set, cL_set, 4, some .int, [(0, 6, 7, 15), (0, 6, 11, 18)])
def md_L_draw : zMd := (yL_draw, cL_draw, 3, some .int, [(0, 5, 6, 18), (0, 5, 10, 25)])
def md_L_claim : zMd := (yL_claim, cL_claim, 4, some .int, [(0, 6, 7, 15), (0, 6, 11, 25)])
def md_L_append : zMd := (yL_append, cL_append, 3, some .int, [(0, 5, 6, 18), (0, 5, 10, 25)])
def md_L_run : zMd := (yL_run, cL_run, 2, some .int, [(0, 4, 5, 18)])
def md_L_keep : zMd := (yL_keep, cL_keep, 3, some .int, [(0, 5, 6, 18)])
def md_L_goBack : zMd := (yL_goBack, cL_goBack, 3, some .int, [(0, 5, 6, 18), (0, 5, 10, 25)])
def md_L_undo : zMd := (yL_undo, cL_undo, 2, some .int, [(0, 4, 5, 25)])
def md_L_at : zMd := (yL_at, cL_at, 5, some .int, [(0, 7, 8, 15)])
def md_L_cardOf : zMd := (yL_cardOf, cL_cardOf, 4, some .int, [(0, 6, 7, 15), (0, 6, 11, 18)])
def md_L_numberOf : zMd := (yL_numberOf, cL_numberOf, 4, some .int, [(0, 6, 7, 18)])
def md_L_called : zMd := (yL_called, cL_called, 4, some .int, [(0, 6, 7, 18)])
def md_L_gameOf : zMd := (yL_gameOf, cL_gameOf, 4, some .int, [(0, 6, 7, 15), (0, 6, 11, 18)])
def md_L_count : zMd := (yL_count, cL_count, 3, some .int, [(0, 5, 6, 18)])
def md_L_setting : zMd := (yL_setting, cL_setting, 3, some .int, [(0, 5, 6, 15)])
def md_L_whyNot : zMd := (yL_whyNot, cL_whyNot, 5, some .int, [(0, 7, 8, 15), (0, 7, 13, 18)])
def md_L_ifClaimed : zMd := (yL_ifClaimed, cL_ifClaimed, 4, some .int, [(0, 6, 7, 15)])
def md_L_missing : zMd := (yL_missing, cL_missing, 5, some .int, [(0, 7, 8, 15), (0, 7, 13, 18)])
def md_L_fullAt : zMd := (yL_fullAt, cL_fullAt, 4, some .int, [(0, 6, 7, 15), (0, 6, 11, 18)])
def md_L_next : zMd := (yL_next, cL_next, 3, some .int, [(0, 5, 6, 18)])
def md_L_lays : zMd := (yL_lays, cL_lays, 6, some .boolean, [])
def md_L_acts : zMd := (yL_acts, cL_acts, 3, some .int, [])
def md_L_bits : zMd := (yL_bits, cL_bits, 3, some .int, [])
def md_L_hangs : zMd := (yL_hangs, cL_hangs, 17, some .boolean, [])
def md_L_law : zMd := (yL_law, cL_law, 19, some .boolean, [])
theorem ug_0 : zG (u_ws RX0 TX0 5) := zG.p [201, 203, 205, 207, 209] (by decide +kernel) (by decide +kernel)
theorem cl_0 : zCl 0 RX0 TX0 5 := ⟨rfl, ug_0, nmX0, tyX0, tyX0_ok⟩
theorem ft_0_0 : zFlT 0 0 true (.object "TombolaBooks$Cards") RX0 := by
  intro C T N h
  cases h
  exact ⟨rfl, by decide +kernel, rfl⟩
theorem ft_0_1 : zFlT 0 1 true (.object "TombolaBooks$Evening") RX0 := by
  intro C T N h
  cases h
  exact ⟨rfl, by decide +kernel, rfl⟩
theorem ft_0_2 : zFlT 0 2 true (.object "TombolaBooks$Tally") RX0 := by
  intro C T N h
  cases h
  exact ⟨rfl, by decide +kernel, rfl⟩
theorem ft_0_3 : zFlT 0 3 true (.array .int) RX0 := by
  intro C T N h
  cases h
  exact ⟨rfl, by decide +kernel, rfl⟩
theorem ft_0_4 : zFlT 0 4 false (.int) RX0 := by
  intro C T N h
  cases h
  exact ⟨rfl, by decide +kernel, rfl⟩
theorem ug_1 : zG (u_ws RX1 TX1 3) := zG.p [63, 65, 67] (by decide +kernel) (by decide +kernel)
theorem cl_1 : zCl 1 RX1 TX1 3 := ⟨rfl, ug_1, nmX1, tyX1, tyX1_ok⟩
theorem ft_1_0 : zFlT 1 0 true (.array .int) RX1 := by
  intro C T N h
  cases h
  exact ⟨rfl, by decide +kernel, rfl⟩
theorem ft_1_1 : zFlT 1 1 true (.array .int) RX1 := by
  intro C T N h
  cases h
  exact ⟨rfl, by decide +kernel, rfl⟩
theorem ft_1_2 : zFlT 1 2 false (.int) RX1 := by
  intro C T N h
  cases h
  exact ⟨rfl, by decide +kernel, rfl⟩
theorem ug_2 : zG (u_ws RX2 TX2 2) := zG.p [87, 89] (by decide +kernel) (by decide +kernel)
theorem cl_2 : zCl 2 RX2 TX2 2 := ⟨rfl, ug_2, nmX2, tyX2, tyX2_ok⟩
theorem ft_2_0 : zFlT 2 0 true (.array .int) RX2 := by
  intro C T N h
  cases h
  exact ⟨rfl, by decide +kernel, rfl⟩
theorem ft_2_1 : zFlT 2 1 false (.int) RX2 := by
  intro C T N h
  cases h
  exact ⟨rfl, by decide +kernel, rfl⟩
theorem ug_3 : zG (u_ws RX3 TX3 10) := zG.p [123, 125, 127, 129, 131, 133, 135, 137, 139, 141] (by decide +kernel) (by decide +kernel)
theorem cl_3 : zCl 3 RX3 TX3 10 := ⟨rfl, ug_3, nmX3, tyX3, tyX3_ok⟩
theorem ft_3_0 : zFlT 3 0 true (.object "TombolaBooks$Drum") RX3 := by
  intro C T N h
  cases h
  exact ⟨rfl, by decide +kernel, rfl⟩
theorem ft_3_1 : zFlT 3 1 true (.array .int) RX3 := by
  intro C T N h
  cases h
  exact ⟨rfl, by decide +kernel, rfl⟩
theorem ft_3_2 : zFlT 3 2 true (.array .int) RX3 := by
  intro C T N h
  cases h
  exact ⟨rfl, by decide +kernel, rfl⟩
theorem ft_3_3 : zFlT 3 3 true (.array .int) RX3 := by
  intro C T N h
  cases h
  exact ⟨rfl, by decide +kernel, rfl⟩
theorem ft_3_4 : zFlT 3 4 true (.array .int) RX3 := by
  intro C T N h
  cases h
  exact ⟨rfl, by decide +kernel, rfl⟩
theorem ft_3_5 : zFlT 3 5 true (.array .int) RX3 := by
  intro C T N h
  cases h
  exact ⟨rfl, by decide +kernel, rfl⟩
theorem ft_3_6 : zFlT 3 6 true (.array .int) RX3 := by
  intro C T N h
  cases h
  exact ⟨rfl, by decide +kernel, rfl⟩
theorem ft_3_7 : zFlT 3 7 false (.int) RX3 := by
  intro C T N h
  cases h
  exact ⟨rfl, by decide +kernel, rfl⟩
theorem ft_3_8 : zFlT 3 8 false (.int) RX3 := by
  intro C T N h
  cases h
  exact ⟨rfl, by decide +kernel, rfl⟩
theorem ft_3_9 : zFlT 3 9 false (.int) RX3 := by
  intro C T N h
  cases h
  exact ⟨rfl, by decide +kernel, rfl⟩
theorem ug_4 : zG (u_ws RX4 TX4 9) := zG.p [167, 169, 171, 173, 175, 177, 179, 181, 183] (by decide +kernel) (by decide +kernel)
theorem cl_4 : zCl 4 RX4 TX4 9 := ⟨rfl, ug_4, nmX4, tyX4, tyX4_ok⟩
theorem ft_4_0 : zFlT 4 0 true (.array .int) RX4 := by
  intro C T N h
  cases h
  exact ⟨rfl, by decide +kernel, rfl⟩
theorem ft_4_1 : zFlT 4 1 true (.array .int) RX4 := by
  intro C T N h
  cases h
  exact ⟨rfl, by decide +kernel, rfl⟩
theorem ft_4_2 : zFlT 4 2 false (.int) RX4 := by
  intro C T N h
  cases h
  exact ⟨rfl, by decide +kernel, rfl⟩
theorem ft_4_3 : zFlT 4 3 false (.int) RX4 := by
  intro C T N h
  cases h
  exact ⟨rfl, by decide +kernel, rfl⟩
theorem ft_4_4 : zFlT 4 4 false (.int) RX4 := by
  intro C T N h
  cases h
  exact ⟨rfl, by decide +kernel, rfl⟩
theorem ft_4_5 : zFlT 4 5 false (.int) RX4 := by
  intro C T N h
  cases h
  exact ⟨rfl, by decide +kernel, rfl⟩
theorem ft_4_6 : zFlT 4 6 false (.int) RX4 := by
  intro C T N h
  cases h
  exact ⟨rfl, by decide +kernel, rfl⟩
theorem ft_4_7 : zFlT 4 7 false (.int) RX4 := by
  intro C T N h
  cases h
  exact ⟨rfl, by decide +kernel, rfl⟩
theorem ft_4_8 : zFlT 4 8 false (.int) RX4 := by
  intro C T N h
  cases h
  exact ⟨rfl, by decide +kernel, rfl⟩
theorem ug_5 : zG (u_ws RX5 TX5 2) := zG.p [223, 225] (by decide +kernel) (by decide +kernel)
theorem cl_5 : zCl 5 RX5 TX5 2 := ⟨rfl, ug_5, nmX5, tyX5, tyX5_ok⟩
theorem ft_5_0 : zFlT 5 0 true (.array .int) RX5 := by
  intro C T N h
  cases h
  exact ⟨rfl, by decide +kernel, rfl⟩
theorem ft_5_1 : zFlT 5 1 false (.int) RX5 := by
  intro C T N h
  cases h
  exact ⟨rfl, by decide +kernel, rfl⟩
theorem ug_6 : zG (u_ws RX6 TX6 9) := zG.p [240, 242, 244, 246, 248, 250, 252, 254, 256] (by decide +kernel) (by decide +kernel)
theorem cl_6 : zCl 6 RX6 TX6 9 := ⟨rfl, ug_6, nmX6, tyX6, tyX6_ok⟩
theorem ft_6_0 : zFlT 6 0 true (.object "TombolaBooks$Book") RX6 := by
  intro C T N h
  cases h
  exact ⟨rfl, by decide +kernel, rfl⟩
theorem ft_6_1 : zFlT 6 1 true (.array (.object "TombolaBooks$Book")) RX6 := by
  intro C T N h
  cases h
  exact ⟨rfl, by decide +kernel, rfl⟩
theorem ft_6_2 : zFlT 6 2 true (.array .boolean) RX6 := by
  intro C T N h
  cases h
  exact ⟨rfl, by decide +kernel, rfl⟩
theorem ft_6_3 : zFlT 6 3 true (.array (.object "TombolaBooks$Book")) RX6 := by
  intro C T N h
  cases h
  exact ⟨rfl, by decide +kernel, rfl⟩
theorem ft_6_4 : zFlT 6 4 false (.int) RX6 := by
  intro C T N h
  cases h
  exact ⟨rfl, by decide +kernel, rfl⟩
theorem ft_6_5 : zFlT 6 5 false (.int) RX6 := by
  intro C T N h
  cases h
  exact ⟨rfl, by decide +kernel, rfl⟩
theorem ft_6_6 : zFlT 6 6 true (.object "TombolaBooks$Text") RX6 := by
  intro C T N h
  cases h
  exact ⟨rfl, by decide +kernel, rfl⟩
theorem ft_6_7 : zFlT 6 7 true (.object "TombolaBooks$Drum") RX6 := by
  intro C T N h
  cases h
  exact ⟨rfl, by decide +kernel, rfl⟩
theorem ft_6_8 : zFlT 6 8 true (.array .int) RX6 := by
  intro C T N h
  cases h
  exact ⟨rfl, by decide +kernel, rfl⟩
theorem f_X1_9 : zFl RX1 9 1 0 := ⟨_, _, _, cl_1, by decide, zG.p [56] (by decide +kernel) (by decide +kernel)⟩
theorem f_X1_15 : zFl RX1 15 1 1 := ⟨_, _, _, cl_1, by decide, zG.p [57] (by decide +kernel) (by decide +kernel)⟩
theorem f_X6_73 : zFl RX6 73 1 1 := ⟨_, _, _, cl_1, by decide, zG.p [58] (by decide +kernel) (by decide +kernel)⟩
theorem f_X2_25 : zFl RX2 25 1 1 := ⟨_, _, _, cl_1, by decide, zG.p [59] (by decide +kernel) (by decide +kernel)⟩
theorem f_X0_144 : zFl RX0 144 1 1 := ⟨_, _, _, cl_1, by decide, zG.p [60] (by decide +kernel) (by decide +kernel)⟩
theorem f_X1_30 : zFl RX1 30 1 2 := ⟨_, _, _, cl_1, by decide, zG.p [61] (by decide +kernel) (by decide +kernel)⟩
theorem f_X6_169 : zFl RX6 169 1 2 := ⟨_, _, _, cl_1, by decide, zG.p [62] (by decide +kernel) (by decide +kernel)⟩
theorem f_X2_9 : zFl RX2 9 2 0 := ⟨_, _, _, cl_2, by decide, zG.p [83] (by decide +kernel) (by decide +kernel)⟩
theorem f_X2_15 : zFl RX2 15 2 1 := ⟨_, _, _, cl_2, by decide, zG.p [84] (by decide +kernel) (by decide +kernel)⟩
theorem f_X0_79 : zFl RX0 79 2 1 := ⟨_, _, _, cl_2, by decide, zG.p [85] (by decide +kernel) (by decide +kernel)⟩
theorem f_X6_124 : zFl RX6 124 2 1 := ⟨_, _, _, cl_2, by decide, zG.p [86] (by decide +kernel) (by decide +kernel)⟩
theorem f_X3_12 : zFl RX3 12 3 0 := ⟨_, _, _, cl_3, by decide, zG.p [96] (by decide +kernel) (by decide +kernel)⟩
theorem f_X6_121 : zFl RX6 121 3 0 := ⟨_, _, _, cl_3, by decide, zG.p [97] (by decide +kernel) (by decide +kernel)⟩
theorem f_X0_107 : zFl RX0 107 3 0 := ⟨_, _, _, cl_3, by decide, zG.p [98] (by decide +kernel) (by decide +kernel)⟩
theorem f_X3_18 : zFl RX3 18 3 1 := ⟨_, _, _, cl_3, by decide, zG.p [99] (by decide +kernel) (by decide +kernel)⟩
theorem f_X6_216 : zFl RX6 216 3 1 := ⟨_, _, _, cl_3, by decide, zG.p [100] (by decide +kernel) (by decide +kernel)⟩
theorem f_X3_22 : zFl RX3 22 3 2 := ⟨_, _, _, cl_3, by decide, zG.p [101] (by decide +kernel) (by decide +kernel)⟩
theorem f_X6_219 : zFl RX6 219 3 2 := ⟨_, _, _, cl_3, by decide, zG.p [102] (by decide +kernel) (by decide +kernel)⟩
theorem f_X3_25 : zFl RX3 25 3 3 := ⟨_, _, _, cl_3, by decide, zG.p [103] (by decide +kernel) (by decide +kernel)⟩
theorem f_X0_120 : zFl RX0 120 3 3 := ⟨_, _, _, cl_3, by decide, zG.p [104] (by decide +kernel) (by decide +kernel)⟩
theorem f_X6_185 : zFl RX6 185 3 3 := ⟨_, _, _, cl_3, by decide, zG.p [105] (by decide +kernel) (by decide +kernel)⟩
theorem f_X3_28 : zFl RX3 28 3 4 := ⟨_, _, _, cl_3, by decide, zG.p [106] (by decide +kernel) (by decide +kernel)⟩
theorem f_X0_127 : zFl RX0 127 3 4 := ⟨_, _, _, cl_3, by decide, zG.p [107] (by decide +kernel) (by decide +kernel)⟩
theorem f_X6_192 : zFl RX6 192 3 4 := ⟨_, _, _, cl_3, by decide, zG.p [108] (by decide +kernel) (by decide +kernel)⟩
theorem f_X3_31 : zFl RX3 31 3 5 := ⟨_, _, _, cl_3, by decide, zG.p [109] (by decide +kernel) (by decide +kernel)⟩
theorem f_X0_114 : zFl RX0 114 3 5 := ⟨_, _, _, cl_3, by decide, zG.p [110] (by decide +kernel) (by decide +kernel)⟩
theorem f_X6_222 : zFl RX6 222 3 5 := ⟨_, _, _, cl_3, by decide, zG.p [111] (by decide +kernel) (by decide +kernel)⟩
theorem f_X3_34 : zFl RX3 34 3 6 := ⟨_, _, _, cl_3, by decide, zG.p [112] (by decide +kernel) (by decide +kernel)⟩
theorem f_X0_117 : zFl RX0 117 3 6 := ⟨_, _, _, cl_3, by decide, zG.p [113] (by decide +kernel) (by decide +kernel)⟩
theorem f_X6_225 : zFl RX6 225 3 6 := ⟨_, _, _, cl_3, by decide, zG.p [114] (by decide +kernel) (by decide +kernel)⟩
theorem f_X3_50 : zFl RX3 50 3 7 := ⟨_, _, _, cl_3, by decide, zG.p [115] (by decide +kernel) (by decide +kernel)⟩
theorem f_X0_101 : zFl RX0 101 3 7 := ⟨_, _, _, cl_3, by decide, zG.p [116] (by decide +kernel) (by decide +kernel)⟩
theorem f_X6_239 : zFl RX6 239 3 7 := ⟨_, _, _, cl_3, by decide, zG.p [117] (by decide +kernel) (by decide +kernel)⟩
theorem f_X3_54 : zFl RX3 54 3 8 := ⟨_, _, _, cl_3, by decide, zG.p [118] (by decide +kernel) (by decide +kernel)⟩
theorem f_X0_98 : zFl RX0 98 3 8 := ⟨_, _, _, cl_3, by decide, zG.p [119] (by decide +kernel) (by decide +kernel)⟩
theorem f_X6_213 : zFl RX6 213 3 8 := ⟨_, _, _, cl_3, by decide, zG.p [120] (by decide +kernel) (by decide +kernel)⟩
theorem f_X3_57 : zFl RX3 57 3 9 := ⟨_, _, _, cl_3, by decide, zG.p [121] (by decide +kernel) (by decide +kernel)⟩
theorem f_X6_242 : zFl RX6 242 3 9 := ⟨_, _, _, cl_3, by decide, zG.p [122] (by decide +kernel) (by decide +kernel)⟩
theorem f_X4_9 : zFl RX4 9 4 0 := ⟨_, _, _, cl_4, by decide, zG.p [150] (by decide +kernel) (by decide +kernel)⟩
theorem f_X0_177 : zFl RX0 177 4 0 := ⟨_, _, _, cl_4, by decide, zG.p [151] (by decide +kernel) (by decide +kernel)⟩
theorem f_X6_205 : zFl RX6 205 4 0 := ⟨_, _, _, cl_4, by decide, zG.p [152] (by decide +kernel) (by decide +kernel)⟩
theorem f_X4_15 : zFl RX4 15 4 1 := ⟨_, _, _, cl_4, by decide, zG.p [153] (by decide +kernel) (by decide +kernel)⟩
theorem f_X0_160 : zFl RX0 160 4 1 := ⟨_, _, _, cl_4, by decide, zG.p [154] (by decide +kernel) (by decide +kernel)⟩
theorem f_X6_210 : zFl RX6 210 4 1 := ⟨_, _, _, cl_4, by decide, zG.p [155] (by decide +kernel) (by decide +kernel)⟩
theorem f_X4_24 : zFl RX4 24 4 2 := ⟨_, _, _, cl_4, by decide, zG.p [156] (by decide +kernel) (by decide +kernel)⟩
theorem f_X0_168 : zFl RX0 168 4 2 := ⟨_, _, _, cl_4, by decide, zG.p [157] (by decide +kernel) (by decide +kernel)⟩
theorem f_X4_28 : zFl RX4 28 4 3 := ⟨_, _, _, cl_4, by decide, zG.p [158] (by decide +kernel) (by decide +kernel)⟩
theorem f_X4_31 : zFl RX4 31 4 4 := ⟨_, _, _, cl_4, by decide, zG.p [159] (by decide +kernel) (by decide +kernel)⟩
theorem f_X0_180 : zFl RX0 180 4 4 := ⟨_, _, _, cl_4, by decide, zG.p [160] (by decide +kernel) (by decide +kernel)⟩
theorem f_X4_34 : zFl RX4 34 4 5 := ⟨_, _, _, cl_4, by decide, zG.p [161] (by decide +kernel) (by decide +kernel)⟩
theorem f_X4_37 : zFl RX4 37 4 6 := ⟨_, _, _, cl_4, by decide, zG.p [162] (by decide +kernel) (by decide +kernel)⟩
theorem f_X0_154 : zFl RX0 154 4 6 := ⟨_, _, _, cl_4, by decide, zG.p [163] (by decide +kernel) (by decide +kernel)⟩
theorem f_X4_40 : zFl RX4 40 4 7 := ⟨_, _, _, cl_4, by decide, zG.p [164] (by decide +kernel) (by decide +kernel)⟩
theorem f_X0_157 : zFl RX0 157 4 7 := ⟨_, _, _, cl_4, by decide, zG.p [165] (by decide +kernel) (by decide +kernel)⟩
theorem f_X4_43 : zFl RX4 43 4 8 := ⟨_, _, _, cl_4, by decide, zG.p [166] (by decide +kernel) (by decide +kernel)⟩
theorem f_X0_12 : zFl RX0 12 0 0 := ⟨_, _, _, cl_0, by decide, zG.p [191] (by decide +kernel) (by decide +kernel)⟩
theorem f_X6_69 : zFl RX6 69 0 0 := ⟨_, _, _, cl_0, by decide, zG.p [192] (by decide +kernel) (by decide +kernel)⟩
theorem f_X0_21 : zFl RX0 21 0 1 := ⟨_, _, _, cl_0, by decide, zG.p [193] (by decide +kernel) (by decide +kernel)⟩
theorem f_X6_78 : zFl RX6 78 0 1 := ⟨_, _, _, cl_0, by decide, zG.p [194] (by decide +kernel) (by decide +kernel)⟩
theorem f_X0_28 : zFl RX0 28 0 2 := ⟨_, _, _, cl_0, by decide, zG.p [195] (by decide +kernel) (by decide +kernel)⟩
theorem f_X6_201 : zFl RX6 201 0 2 := ⟨_, _, _, cl_0, by decide, zG.p [196] (by decide +kernel) (by decide +kernel)⟩
theorem f_X0_32 : zFl RX0 32 0 3 := ⟨_, _, _, cl_0, by decide, zG.p [197] (by decide +kernel) (by decide +kernel)⟩
theorem f_X6_118 : zFl RX6 118 0 3 := ⟨_, _, _, cl_0, by decide, zG.p [198] (by decide +kernel) (by decide +kernel)⟩
theorem f_X0_36 : zFl RX0 36 0 4 := ⟨_, _, _, cl_0, by decide, zG.p [199] (by decide +kernel) (by decide +kernel)⟩
theorem f_X6_105 : zFl RX6 105 0 4 := ⟨_, _, _, cl_0, by decide, zG.p [200] (by decide +kernel) (by decide +kernel)⟩
theorem f_X5_9 : zFl RX5 9 5 0 := ⟨_, _, _, cl_5, by decide, zG.p [219] (by decide +kernel) (by decide +kernel)⟩
theorem f_X6_143 : zFl RX6 143 5 0 := ⟨_, _, _, cl_5, by decide, zG.p [220] (by decide +kernel) (by decide +kernel)⟩
theorem f_X5_15 : zFl RX5 15 5 1 := ⟨_, _, _, cl_5, by decide, zG.p [221] (by decide +kernel) (by decide +kernel)⟩
theorem f_X6_140 : zFl RX6 140 5 1 := ⟨_, _, _, cl_5, by decide, zG.p [222] (by decide +kernel) (by decide +kernel)⟩
theorem f_X6_10 : zFl RX6 10 6 0 := ⟨_, _, _, cl_6, by decide, zG.p [231] (by decide +kernel) (by decide +kernel)⟩
theorem f_X6_16 : zFl RX6 16 6 1 := ⟨_, _, _, cl_6, by decide, zG.p [232] (by decide +kernel) (by decide +kernel)⟩
theorem f_X6_20 : zFl RX6 20 6 2 := ⟨_, _, _, cl_6, by decide, zG.p [233] (by decide +kernel) (by decide +kernel)⟩
theorem f_X6_24 : zFl RX6 24 6 3 := ⟨_, _, _, cl_6, by decide, zG.p [234] (by decide +kernel) (by decide +kernel)⟩
theorem f_X6_173 : zFl RX6 173 6 4 := ⟨_, _, _, cl_6, by decide, zG.p [235] (by decide +kernel) (by decide +kernel)⟩
theorem f_X6_170 : zFl RX6 170 6 5 := ⟨_, _, _, cl_6, by decide, zG.p [236] (by decide +kernel) (by decide +kernel)⟩
theorem f_X6_30 : zFl RX6 30 6 6 := ⟨_, _, _, cl_6, by decide, zG.p [237] (by decide +kernel) (by decide +kernel)⟩
theorem f_X6_37 : zFl RX6 37 6 7 := ⟨_, _, _, cl_6, by decide, zG.p [238] (by decide +kernel) (by decide +kernel)⟩
theorem f_X6_41 : zFl RX6 41 6 8 := ⟨_, _, _, cl_6, by decide, zG.p [239] (by decide +kernel) (by decide +kernel)⟩
theorem l_L_152 : zLkI RL 152 md_X6_init 0 := ⟨zG.p [35, 36, 16, 37] (by decide +kernel) (by decide +kernel), ⟨by decide, by decide, by decide +kernel⟩, by decide, rfl, rfl⟩
theorem l_X6_1 : zG [.methodLink RX6 1 Lib.objectInit, .instanceMethod Lib.objectInit, .code Lib.objectInit ⟨#[0xb1]⟩ 1 none] := zG.p [38, 39, 40] (by decide +kernel) (by decide +kernel)
theorem l_X6_9 : zLkI RX6 9 md_X0_init 0 := ⟨zG.p [43, 44, 17, 45] (by decide +kernel) (by decide +kernel), ⟨by decide, by decide, by decide +kernel⟩, by decide, rfl, rfl⟩
theorem l_X0_3 : zG [.methodLink RX0 3 Lib.objectInit, .instanceMethod Lib.objectInit, .code Lib.objectInit ⟨#[0xb1]⟩ 1 none] := zG.p [46, 39, 40] (by decide +kernel) (by decide +kernel)
theorem l_X0_11 : zLkI RX0 11 md_X1_init 0 := ⟨zG.p [49, 50, 18, 51] (by decide +kernel) (by decide +kernel), ⟨by decide, by decide, by decide +kernel⟩, by decide, rfl, rfl⟩
theorem l_X1_3 : zG [.methodLink RX1 3 Lib.objectInit, .instanceMethod Lib.objectInit, .code Lib.objectInit ⟨#[0xb1]⟩ 1 none] := zG.p [52, 39, 40] (by decide +kernel) (by decide +kernel)
theorem l_X1_18 : zLkS RX1 18 md_J7_fill_53178 2 := ⟨zG.p [53, 54, 19, 55] (by decide +kernel) (by decide +kernel), ⟨by decide, by decide, by decide +kernel⟩, by decide⟩
theorem l_X0_20 : zLkI RX0 20 md_X3_init 0 := ⟨zG.p [73, 74, 20, 75] (by decide +kernel) (by decide +kernel), ⟨by decide, by decide, by decide +kernel⟩, by decide, rfl, rfl⟩
theorem l_X3_3 : zG [.methodLink RX3 3 Lib.objectInit, .instanceMethod Lib.objectInit, .code Lib.objectInit ⟨#[0xb1]⟩ 1 none] := zG.p [76, 39, 40] (by decide +kernel) (by decide +kernel)
theorem l_X2_3 : zG [.methodLink RX2 3 Lib.objectInit, .instanceMethod Lib.objectInit, .code Lib.objectInit ⟨#[0xb1]⟩ 1 none] := zG.p [82, 39, 40] (by decide +kernel) (by decide +kernel)
theorem l_X3_37 : zLkV RX3 37 md_X2_holdAll 0 := ⟨zG.p [92, 93, 94, 21, 95] (by decide +kernel) (by decide +kernel), ⟨by decide, by decide, by decide +kernel⟩, by decide⟩
theorem l_X4_3 : zG [.methodLink RX4 3 Lib.objectInit, .instanceMethod Lib.objectInit, .code Lib.objectInit ⟨#[0xb1]⟩ 1 none] := zG.p [149, 39, 40] (by decide +kernel) (by decide +kernel)
theorem l_X0_43 : zCopyW RX0 43 := zG.p [188, 190, 189, 23] (by decide +kernel) (by decide +kernel)
theorem l_X5_3 : zG [.methodLink RX5 3 Lib.objectInit, .instanceMethod Lib.objectInit, .code Lib.objectInit ⟨#[0xb1]⟩ 1 none] := zG.p [218, 39, 40] (by decide +kernel) (by decide +kernel)
theorem l_L_116 : zLkV RL 116 md_X6_end 0 := ⟨zG.p [259, 260, 261, 16, 262] (by decide +kernel) (by decide +kernel), ⟨by decide, by decide, by decide +kernel⟩, by decide⟩
theorem l_X6_62 : zLkV RX6 62 md_X6_save 0 := ⟨zG.p [263, 265, 0, 16, 266] (by decide +kernel) (by decide +kernel), ⟨by decide, by decide, by decide +kernel⟩, by decide⟩
theorem l_X6_165 : zLkV RX6 165 md_X0_copyFrom 1 := ⟨zG.p [267, 268, 269, 17, 270] (by decide +kernel) (by decide +kernel), ⟨by decide, by decide, by decide +kernel⟩, by decide⟩
theorem l_X0_49 : zLkV RX0 49 md_X1_copyFrom 1 := ⟨zG.p [271, 272, 273, 18, 274] (by decide +kernel) (by decide +kernel), ⟨by decide, by decide, by decide +kernel⟩, by decide⟩
theorem l_X1_24 : zCopyW RX1 24 := zG.p [275, 190, 189, 23] (by decide +kernel) (by decide +kernel)
theorem l_X0_53 : zLkV RX0 53 md_X3_copyFrom 1 := ⟨zG.p [276, 277, 278, 20, 279] (by decide +kernel) (by decide +kernel), ⟨by decide, by decide, by decide +kernel⟩, by decide⟩
theorem l_X3_40 : zLkV RX3 40 md_X2_copyFrom 1 := ⟨zG.p [280, 281, 282, 21, 283] (by decide +kernel) (by decide +kernel), ⟨by decide, by decide, by decide +kernel⟩, by decide⟩
theorem l_X2_19 : zCopyW RX2 19 := zG.p [284, 190, 189, 23] (by decide +kernel) (by decide +kernel)
theorem l_X3_44 : zCopyW RX3 44 := zG.p [285, 190, 189, 23] (by decide +kernel) (by decide +kernel)
theorem l_X0_56 : zLkV RX0 56 md_X4_copyFrom 1 := ⟨zG.p [286, 287, 288, 22, 289] (by decide +kernel) (by decide +kernel), ⟨by decide, by decide, by decide +kernel⟩, by decide⟩
theorem l_X4_18 : zCopyW RX4 18 := zG.p [290, 190, 189, 23] (by decide +kernel) (by decide +kernel)
theorem l_X6_136 : zLkV RX6 136 md_X0_payAndBeginAnew 0 := ⟨zG.p [291, 292, 293, 17, 294] (by decide +kernel) (by decide +kernel), ⟨by decide, by decide, by decide +kernel⟩, by decide⟩
theorem l_X0_174 : zLkV RX0 174 md_X0_prizeForEach 1 := ⟨zG.p [295, 296, 297, 17, 298] (by decide +kernel) (by decide +kernel), ⟨by decide, by decide, by decide +kernel⟩, by decide⟩
theorem l_X0_163 : zLkS RX0 163 md_J6_bitCount_0f7a4 1 := ⟨zG.p [299, 300, 31, 301] (by decide +kernel) (by decide +kernel), ⟨by decide, by decide, by decide +kernel⟩, by decide⟩
theorem l_X0_183 : zLkV RX0 183 md_X4_closeEvening 1 := ⟨zG.p [307, 308, 309, 22, 310] (by decide +kernel) (by decide +kernel), ⟨by decide, by decide, by decide +kernel⟩, by decide⟩
theorem l_X0_187 : zLkV RX0 187 md_X3_begin 0 := ⟨zG.p [311, 312, 313, 20, 314] (by decide +kernel) (by decide +kernel), ⟨by decide, by decide, by decide +kernel⟩, by decide⟩
theorem l_X3_60 : zLkS RX3 60 md_J7_fill_53178 2 := ⟨zG.p [315, 54, 19, 55] (by decide +kernel) (by decide +kernel), ⟨by decide, by decide, by decide +kernel⟩, by decide⟩
theorem l_L_149 : zLkV RL 149 md_X6_firstFull 0 := ⟨zG.p [316, 317, 318, 16, 319] (by decide +kernel) (by decide +kernel), ⟨by decide, by decide, by decide +kernel⟩, by decide⟩
theorem l_X6_264 : zLkV RX6 264 md_X6_layOrder 0 := ⟨zG.p [320, 322, 1, 16, 323] (by decide +kernel) (by decide +kernel), ⟨by decide, by decide, by decide +kernel⟩, by decide⟩
theorem l_X6_369 : zCopyW RX6 369 := zG.p [324, 190, 189, 23] (by decide +kernel) (by decide +kernel)
theorem l_X6_270 : zLkV RX6 270 md_X2_copyFrom 1 := ⟨zG.p [325, 281, 282, 21, 283] (by decide +kernel) (by decide +kernel), ⟨by decide, by decide, by decide +kernel⟩, by decide⟩
theorem l_X6_273 : zLkS RX6 273 md_X6_lotAfter 1 := ⟨zG.p [326, 327, 16, 328] (by decide +kernel) (by decide +kernel), ⟨by decide, by decide, by decide +kernel⟩, by decide⟩
theorem l_X6_276 : zLkV RX6 276 md_X2_takeOut 1 := ⟨zG.p [329, 330, 331, 21, 332] (by decide +kernel) (by decide +kernel), ⟨by decide, by decide, by decide +kernel⟩, by decide⟩
theorem l_X6_182 : zLkV RX6 182 md_X1_isWhole 1 := ⟨zG.p [333, 334, 335, 18, 336] (by decide +kernel) (by decide +kernel), ⟨by decide, by decide, by decide +kernel⟩, by decide⟩
theorem l_X1_53 : zLkV RX1 53 md_X1_cardSize 1 := ⟨zG.p [337, 338, 339, 18, 340] (by decide +kernel) (by decide +kernel), ⟨by decide, by decide, by decide +kernel⟩, by decide⟩
theorem l_X1_46 : zLkV RX1 46 md_X1_rowSize 1 := ⟨zG.p [341, 343, 2, 18, 344] (by decide +kernel) (by decide +kernel), ⟨by decide, by decide, by decide +kernel⟩, by decide⟩
theorem l_X6_267 : zLkV RX6 267 md_X6_lastCallInOrder 1 := ⟨zG.p [345, 347, 3, 16, 348] (by decide +kernel) (by decide +kernel), ⟨by decide, by decide, by decide +kernel⟩, by decide⟩
theorem l_X6_365 : zLkV RX6 365 md_X1_standsIn 2 := ⟨zG.p [349, 350, 351, 18, 352] (by decide +kernel) (by decide +kernel), ⟨by decide, by decide, by decide +kernel⟩, by decide⟩
theorem l_L_158 : zLkV RL 158 md_X6_drawnShare 0 := ⟨zG.p [356, 357, 358, 16, 359] (by decide +kernel) (by decide +kernel), ⟨by decide, by decide, by decide +kernel⟩, by decide⟩
theorem l_X6_188 : zLkV RX6 188 md_X1_markedInCard 2 := ⟨zG.p [360, 361, 362, 18, 363] (by decide +kernel) (by decide +kernel), ⟨by decide, by decide, by decide +kernel⟩, by decide⟩
theorem l_X1_63 : zLkV RX1 63 md_X1_unmarkedInRow 2 := ⟨zG.p [364, 365, 366, 18, 367] (by decide +kernel) (by decide +kernel), ⟨by decide, by decide, by decide +kernel⟩, by decide⟩
theorem l_X1_59 : zLkS RX1 59 md_X1_isUnmarked 2 := ⟨zG.p [368, 369, 18, 370] (by decide +kernel) (by decide +kernel), ⟨by decide, by decide, by decide +kernel⟩, by decide⟩
theorem l_L_166 : zLkS RL 166 md_L_cell 2 := ⟨zG.p [371, 372, 15, 373] (by decide +kernel) (by decide +kernel), ⟨by decide, by decide, by decide +kernel⟩, by decide⟩
theorem l_L_99 : zLkH RL 99 md_L_put 4 := ⟨zG.p [376, 377, 15, 378] (by decide +kernel) (by decide +kernel), ⟨by decide, by decide, by decide +kernel⟩, by decide⟩
theorem l_L_9 : zLkV RL 9 md_X6_put 3 := ⟨zG.p [381, 382, 383, 16, 384] (by decide +kernel) (by decide +kernel), ⟨by decide, by decide, by decide +kernel⟩, by decide⟩
theorem l_X6_45 : zLkS RX6 45 md_X6_isCard 1 := ⟨zG.p [385, 386, 16, 387] (by decide +kernel) (by decide +kernel), ⟨by decide, by decide, by decide +kernel⟩, by decide⟩
theorem l_X6_49 : zLkS RX6 49 md_X6_isRow 1 := ⟨zG.p [388, 389, 16, 390] (by decide +kernel) (by decide +kernel), ⟨by decide, by decide, by decide +kernel⟩, by decide⟩
theorem l_X6_52 : zLkS RX6 52 md_X6_needPlace 1 := ⟨zG.p [391, 392, 16, 393] (by decide +kernel) (by decide +kernel), ⟨by decide, by decide, by decide +kernel⟩, by decide⟩
theorem l_X6_56 : zLkS RX6 56 md_X6_isNumber 1 := ⟨zG.p [462, 354, 16, 355] (by decide +kernel) (by decide +kernel), ⟨by decide, by decide, by decide +kernel⟩, by decide⟩
theorem l_X6_59 : zLkS RX6 59 md_X6_needValue 1 := ⟨zG.p [463, 464, 16, 465] (by decide +kernel) (by decide +kernel), ⟨by decide, by decide, by decide +kernel⟩, by decide⟩
theorem l_X6_65 : zLkV RX6 65 md_X0_place 2 := ⟨zG.p [482, 483, 484, 17, 485] (by decide +kernel) (by decide +kernel), ⟨by decide, by decide, by decide +kernel⟩, by decide⟩
theorem l_X0_67 : zLkV RX0 67 md_X0_reasonAgainstPlace 2 := ⟨zG.p [486, 487, 488, 17, 489] (by decide +kernel) (by decide +kernel), ⟨by decide, by decide, by decide +kernel⟩, by decide⟩
theorem l_X0_59 : zLkV RX0 59 md_X1_reasonAgainst 2 := ⟨zG.p [490, 491, 492, 18, 493] (by decide +kernel) (by decide +kernel), ⟨by decide, by decide, by decide +kernel⟩, by decide⟩
theorem l_X1_38 : zLkS RX1 38 md_X1_columnOf 1 := ⟨zG.p [494, 495, 18, 496] (by decide +kernel) (by decide +kernel), ⟨by decide, by decide, by decide +kernel⟩, by decide⟩
theorem l_X1_42 : zLkV RX1 42 md_X1_numberIn 2 := ⟨zG.p [497, 498, 499, 18, 500] (by decide +kernel) (by decide +kernel), ⟨by decide, by decide, by decide +kernel⟩, by decide⟩
theorem l_X1_49 : zLkV RX1 49 md_X1_breaksColumn 2 := ⟨zG.p [501, 503, 5, 18, 504] (by decide +kernel) (by decide +kernel), ⟨by decide, by decide, by decide +kernel⟩, by decide⟩
theorem l_X0_63 : zLkV RX0 63 md_X3_isBought 1 := ⟨zG.p [505, 506, 507, 20, 508] (by decide +kernel) (by decide +kernel), ⟨by decide, by decide, by decide +kernel⟩, by decide⟩
theorem l_X0_70 : zLkV RX0 70 md_X1_stand 2 := ⟨zG.p [509, 510, 511, 18, 512] (by decide +kernel) (by decide +kernel), ⟨by decide, by decide, by decide +kernel⟩, by decide⟩
theorem l_L_104 : zLkH RL 104 md_L_take 2 := ⟨zG.p [515, 516, 15, 517] (by decide +kernel) (by decide +kernel), ⟨by decide, by decide, by decide +kernel⟩, by decide⟩
theorem l_L_21 : zLkV RL 21 md_X6_take 1 := ⟨zG.p [519, 520, 521, 16, 522] (by decide +kernel) (by decide +kernel), ⟨by decide, by decide, by decide +kernel⟩, by decide⟩
theorem l_X6_82 : zLkV RX6 82 md_X3_isBought 1 := ⟨zG.p [523, 506, 507, 20, 508] (by decide +kernel) (by decide +kernel), ⟨by decide, by decide, by decide +kernel⟩, by decide⟩
theorem l_X6_87 : zLkS RX6 87 md_X6_needState 1 := ⟨zG.p [524, 525, 16, 526] (by decide +kernel) (by decide +kernel), ⟨by decide, by decide, by decide +kernel⟩, by decide⟩
theorem l_X6_90 : zLkV RX6 90 md_X1_lift 1 := ⟨zG.p [543, 544, 545, 18, 546] (by decide +kernel) (by decide +kernel), ⟨by decide, by decide, by decide +kernel⟩, by decide⟩
theorem l_L_107 : zLkH RL 107 md_L_fill 3 := ⟨zG.p [547, 548, 15, 549] (by decide +kernel) (by decide +kernel), ⟨by decide, by decide, by decide +kernel⟩, by decide⟩
theorem l_L_27 : zLkV RL 27 md_X6_fill 2 := ⟨zG.p [550, 551, 552, 16, 553] (by decide +kernel) (by decide +kernel), ⟨by decide, by decide, by decide +kernel⟩, by decide⟩
theorem l_X6_94 : zLkV RX6 94 md_X0_placeByLot 3 := ⟨zG.p [554, 555, 556, 17, 557] (by decide +kernel) (by decide +kernel), ⟨by decide, by decide, by decide +kernel⟩, by decide⟩
theorem l_X0_74 : zLkV RX0 74 md_X2_holdNumbersOutOf 1 := ⟨zG.p [558, 559, 560, 21, 561] (by decide +kernel) (by decide +kernel), ⟨by decide, by decide, by decide +kernel⟩, by decide⟩
theorem l_X0_86 : zLkV RX0 86 md_X2_byLot 1 := ⟨zG.p [563, 564, 565, 21, 566] (by decide +kernel) (by decide +kernel), ⟨by decide, by decide, by decide +kernel⟩, by decide⟩
theorem l_X0_89 : zLkV RX0 89 md_X0_firstRowFor 2 := ⟨zG.p [567, 569, 6, 17, 570] (by decide +kernel) (by decide +kernel), ⟨by decide, by decide, by decide +kernel⟩, by decide⟩
theorem l_X0_92 : zLkV RX0 92 md_X2_takeOut 1 := ⟨zG.p [571, 330, 331, 21, 332] (by decide +kernel) (by decide +kernel), ⟨by decide, by decide, by decide +kernel⟩, by decide⟩
theorem l_L_110 : zLkH RL 110 md_L_buy 2 := ⟨zG.p [573, 574, 15, 575] (by decide +kernel) (by decide +kernel), ⟨by decide, by decide, by decide +kernel⟩, by decide⟩
theorem l_L_32 : zLkV RL 32 md_X6_buy 1 := ⟨zG.p [576, 577, 578, 16, 579] (by decide +kernel) (by decide +kernel), ⟨by decide, by decide, by decide +kernel⟩, by decide⟩
theorem l_X6_98 : zLkV RX6 98 md_X0_isForSale 1 := ⟨zG.p [580, 581, 582, 17, 583] (by decide +kernel) (by decide +kernel), ⟨by decide, by decide, by decide +kernel⟩, by decide⟩
theorem l_X0_95 : zLkV RX0 95 md_X1_isWhole 1 := ⟨zG.p [584, 334, 335, 18, 336] (by decide +kernel) (by decide +kernel), ⟨by decide, by decide, by decide +kernel⟩, by decide⟩
theorem l_X6_101 : zLkV RX6 101 md_X0_sell 1 := ⟨zG.p [585, 586, 587, 17, 588] (by decide +kernel) (by decide +kernel), ⟨by decide, by decide, by decide +kernel⟩, by decide⟩
theorem l_X0_104 : zLkV RX0 104 md_X4_takeIn 1 := ⟨zG.p [589, 590, 591, 22, 592] (by decide +kernel) (by decide +kernel), ⟨by decide, by decide, by decide +kernel⟩, by decide⟩
theorem l_L_112 : zLkH RL 112 md_L_seed 2 := ⟨zG.p [593, 594, 15, 595] (by decide +kernel) (by decide +kernel), ⟨by decide, by decide, by decide +kernel⟩, by decide⟩
theorem l_L_35 : zLkV RL 35 md_X6_seed 1 := ⟨zG.p [596, 597, 598, 16, 599] (by decide +kernel) (by decide +kernel), ⟨by decide, by decide, by decide +kernel⟩, by decide⟩
theorem l_L_114 : zLkH RL 114 md_L_set 3 := ⟨zG.p [600, 601, 15, 602] (by decide +kernel) (by decide +kernel), ⟨by decide, by decide, by decide +kernel⟩, by decide⟩
theorem l_L_38 : zLkV RL 38 md_X6_set 2 := ⟨zG.p [603, 604, 605, 16, 606] (by decide +kernel) (by decide +kernel), ⟨by decide, by decide, by decide +kernel⟩, by decide⟩
theorem l_X6_109 : zLkS RX6 109 md_X6_isSetting 1 := ⟨zG.p [607, 608, 16, 609] (by decide +kernel) (by decide +kernel), ⟨by decide, by decide, by decide +kernel⟩, by decide⟩
theorem l_L_119 : zLkH RL 119 md_L_draw 2 := ⟨zG.p [614, 615, 15, 616] (by decide +kernel) (by decide +kernel), ⟨by decide, by decide, by decide +kernel⟩, by decide⟩
theorem l_L_41 : zLkV RL 41 md_X6_draw 1 := ⟨zG.p [617, 618, 619, 16, 620] (by decide +kernel) (by decide +kernel), ⟨by decide, by decide, by decide +kernel⟩, by decide⟩
theorem l_X6_127 : zLkV RX6 127 md_X0_drawBalls 1 := ⟨zG.p [621, 622, 623, 17, 624] (by decide +kernel) (by decide +kernel), ⟨by decide, by decide, by decide +kernel⟩, by decide⟩
theorem l_X0_111 : zLkV RX0 111 md_X3_tell 2 := ⟨zG.p [625, 626, 627, 20, 628] (by decide +kernel) (by decide +kernel), ⟨by decide, by decide, by decide +kernel⟩, by decide⟩
theorem l_L_121 : zLkH RL 121 md_L_claim 3 := ⟨zG.p [629, 630, 15, 631] (by decide +kernel) (by decide +kernel), ⟨by decide, by decide, by decide +kernel⟩, by decide⟩
theorem l_L_44 : zLkV RL 44 md_X6_claim 2 := ⟨zG.p [632, 633, 634, 16, 635] (by decide +kernel) (by decide +kernel), ⟨by decide, by decide, by decide +kernel⟩, by decide⟩
theorem l_X6_130 : zLkS RX6 130 md_X6_isGame 1 := ⟨zG.p [636, 637, 16, 638] (by decide +kernel) (by decide +kernel), ⟨by decide, by decide, by decide +kernel⟩, by decide⟩
theorem l_X6_133 : zLkV RX6 133 md_X0_settleClaim 2 := ⟨zG.p [639, 640, 641, 17, 642] (by decide +kernel) (by decide +kernel), ⟨by decide, by decide, by decide +kernel⟩, by decide⟩
theorem l_X0_151 : zLkV RX0 151 md_X0_reasonAgainstClaim 2 := ⟨zG.p [643, 644, 645, 17, 646] (by decide +kernel) (by decide +kernel), ⟨by decide, by decide, by decide +kernel⟩, by decide⟩
theorem l_X0_123 : zLkV RX0 123 md_X1_unmarkedOfGame 3 := ⟨zG.p [647, 648, 649, 18, 650] (by decide +kernel) (by decide +kernel), ⟨by decide, by decide, by decide +kernel⟩, by decide⟩
theorem l_X1_73 : zLkV RX1 73 md_X1_unmarkedCorners 2 := ⟨zG.p [651, 653, 7, 18, 654] (by decide +kernel) (by decide +kernel), ⟨by decide, by decide, by decide +kernel⟩, by decide⟩
theorem l_X1_70 : zLkV RX1 70 md_X1_corner 2 := ⟨zG.p [655, 657, 8, 18, 658] (by decide +kernel) (by decide +kernel), ⟨by decide, by decide, by decide +kernel⟩, by decide⟩
theorem l_X1_76 : zG [.methodLink RX1 76 Lib.Math.min.name, .static Lib.Math.min.name, .initialized "java/lang/Math", .code Lib.Math.min.name Lib.Math.min.code 2 (some .int)] := zG.p [659, 660, 30, 661] (by decide +kernel) (by decide +kernel)
theorem l_X1_81 : zG [.methodLink RX1 81 Lib.Math.max.name, .static Lib.Math.max.name, .initialized "java/lang/Math", .code Lib.Math.max.name Lib.Math.max.code 2 (some .int)] := zG.p [662, 663, 30, 664] (by decide +kernel) (by decide +kernel)
theorem l_X0_130 : zLkV RX0 130 md_X0_isHeldByLastBall 2 := ⟨zG.p [665, 667, 9, 17, 668] (by decide +kernel) (by decide +kernel), ⟨by decide, by decide, by decide +kernel⟩, by decide⟩
theorem l_X0_134 : zLkV RX0 134 md_X3_lastDrawn 0 := ⟨zG.p [669, 670, 671, 20, 672] (by decide +kernel) (by decide +kernel), ⟨by decide, by decide, by decide +kernel⟩, by decide⟩
theorem l_X0_138 : zLkV RX0 138 md_X1_standsIn 2 := ⟨zG.p [673, 350, 351, 18, 352] (by decide +kernel) (by decide +kernel), ⟨by decide, by decide, by decide +kernel⟩, by decide⟩
theorem l_X0_141 : zLkV RX0 141 md_X1_isCorner 1 := ⟨zG.p [674, 675, 676, 18, 677] (by decide +kernel) (by decide +kernel), ⟨by decide, by decide, by decide +kernel⟩, by decide⟩
theorem l_X0_147 : zLkV RX0 147 md_X1_unmarkedInRow 2 := ⟨zG.p [678, 365, 366, 18, 367] (by decide +kernel) (by decide +kernel), ⟨by decide, by decide, by decide +kernel⟩, by decide⟩
theorem l_L_184 : zLkH RL 184 md_L_append 2 := ⟨zG.p [679, 680, 15, 681] (by decide +kernel) (by decide +kernel), ⟨by decide, by decide, by decide +kernel⟩, by decide⟩
theorem l_L_47 : zLkV RL 47 md_X6_append 1 := ⟨zG.p [682, 683, 684, 16, 685] (by decide +kernel) (by decide +kernel), ⟨by decide, by decide, by decide +kernel⟩, by decide⟩
theorem l_L_156 : zLkH RL 156 md_L_run 1 := ⟨zG.p [686, 687, 15, 688] (by decide +kernel) (by decide +kernel), ⟨by decide, by decide, by decide +kernel⟩, by decide⟩
theorem l_L_50 : zLkV RL 50 md_X6_run 0 := ⟨zG.p [689, 690, 691, 16, 692] (by decide +kernel) (by decide +kernel), ⟨by decide, by decide, by decide +kernel⟩, by decide⟩
theorem l_X6_149 : zLkV RX6 149 md_X5_tellsEvening 0 := ⟨zG.p [693, 694, 695, 24, 696] (by decide +kernel) (by decide +kernel), ⟨by decide, by decide, by decide +kernel⟩, by decide⟩
theorem l_X5_19 : zLkV RX5 19 md_X5_codeAt 1 := ⟨zG.p [697, 698, 699, 24, 700] (by decide +kernel) (by decide +kernel), ⟨by decide, by decide, by decide +kernel⟩, by decide⟩
theorem l_X5_23 : zLkS RX5 23 md_X5_orderLength 1 := ⟨zG.p [701, 702, 24, 703] (by decide +kernel) (by decide +kernel), ⟨by decide, by decide, by decide +kernel⟩, by decide⟩
theorem l_X5_30 : zLkV RX5 30 md_X5_firstWrong 0 := ⟨zG.p [704, 705, 706, 24, 707] (by decide +kernel) (by decide +kernel), ⟨by decide, by decide, by decide +kernel⟩, by decide⟩
theorem l_X5_26 : zLkV RX5 26 md_X5_fits 2 := ⟨zG.p [708, 710, 10, 24, 711] (by decide +kernel) (by decide +kernel), ⟨by decide, by decide, by decide +kernel⟩, by decide⟩
theorem l_X5_34 : zLkV RX5 34 md_X5_digitAt 1 := ⟨zG.p [712, 713, 714, 24, 715] (by decide +kernel) (by decide +kernel), ⟨by decide, by decide, by decide +kernel⟩, by decide⟩
theorem l_X6_153 : zLkV RX6 153 md_X6_doOrder 1 := ⟨zG.p [720, 722, 11, 16, 723] (by decide +kernel) (by decide +kernel), ⟨by decide, by decide, by decide +kernel⟩, by decide⟩
theorem l_X6_362 : zLkV RX6 362 md_X5_digitAt 1 := ⟨zG.p [724, 713, 714, 24, 715] (by decide +kernel) (by decide +kernel), ⟨by decide, by decide, by decide +kernel⟩, by decide⟩
theorem l_X6_156 : zLkV RX6 156 md_X5_codeAt 1 := ⟨zG.p [725, 698, 699, 24, 700] (by decide +kernel) (by decide +kernel), ⟨by decide, by decide, by decide +kernel⟩, by decide⟩
theorem l_X6_159 : zLkS RX6 159 md_X5_orderLength 1 := ⟨zG.p [726, 702, 24, 703] (by decide +kernel) (by decide +kernel), ⟨by decide, by decide, by decide +kernel⟩, by decide⟩
theorem l_L_125 : zLkH RL 125 md_L_keep 2 := ⟨zG.p [727, 728, 15, 729] (by decide +kernel) (by decide +kernel), ⟨by decide, by decide, by decide +kernel⟩, by decide⟩
theorem l_L_54 : zLkV RL 54 md_X6_keep 1 := ⟨zG.p [730, 731, 732, 16, 733] (by decide +kernel) (by decide +kernel), ⟨by decide, by decide, by decide +kernel⟩, by decide⟩
theorem l_X6_162 : zLkS RX6 162 md_X6_isSlot 1 := ⟨zG.p [734, 735, 16, 736] (by decide +kernel) (by decide +kernel), ⟨by decide, by decide, by decide +kernel⟩, by decide⟩
theorem l_L_123 : zLkH RL 123 md_L_goBack 2 := ⟨zG.p [737, 738, 15, 739] (by decide +kernel) (by decide +kernel), ⟨by decide, by decide, by decide +kernel⟩, by decide⟩
theorem l_L_57 : zLkV RL 57 md_X6_goBack 1 := ⟨zG.p [740, 741, 742, 16, 743] (by decide +kernel) (by decide +kernel), ⟨by decide, by decide, by decide +kernel⟩, by decide⟩
theorem l_L_153 : zLkH RL 153 md_L_undo 1 := ⟨zG.p [744, 745, 15, 746] (by decide +kernel) (by decide +kernel), ⟨by decide, by decide, by decide +kernel⟩, by decide⟩
theorem l_L_60 : zLkV RL 60 md_X6_undo 0 := ⟨zG.p [747, 748, 749, 16, 750] (by decide +kernel) (by decide +kernel), ⟨by decide, by decide, by decide +kernel⟩, by decide⟩
theorem l_L_134 : zLkH RL 134 md_L_at 4 := ⟨zG.p [751, 752, 15, 753] (by decide +kernel) (by decide +kernel), ⟨by decide, by decide, by decide +kernel⟩, by decide⟩
theorem l_L_63 : zLkV RL 63 md_X6_at 3 := ⟨zG.p [754, 755, 756, 16, 757] (by decide +kernel) (by decide +kernel), ⟨by decide, by decide, by decide +kernel⟩, by decide⟩
theorem l_X6_176 : zLkV RX6 176 md_X1_numberIn 2 := ⟨zG.p [758, 498, 499, 18, 500] (by decide +kernel) (by decide +kernel), ⟨by decide, by decide, by decide +kernel⟩, by decide⟩
theorem l_L_136 : zLkH RL 136 md_L_cardOf 3 := ⟨zG.p [759, 760, 15, 761] (by decide +kernel) (by decide +kernel), ⟨by decide, by decide, by decide +kernel⟩, by decide⟩
theorem l_L_66 : zLkV RL 66 md_X6_cardOf 2 := ⟨zG.p [762, 763, 764, 16, 765] (by decide +kernel) (by decide +kernel), ⟨by decide, by decide, by decide +kernel⟩, by decide⟩
theorem l_X6_179 : zLkV RX6 179 md_X1_cardSize 1 := ⟨zG.p [766, 338, 339, 18, 340] (by decide +kernel) (by decide +kernel), ⟨by decide, by decide, by decide +kernel⟩, by decide⟩
theorem l_X6_195 : zLkV RX6 195 md_X1_linesOf 2 := ⟨zG.p [767, 768, 769, 18, 770] (by decide +kernel) (by decide +kernel), ⟨by decide, by decide, by decide +kernel⟩, by decide⟩
theorem l_X1_67 : zLkV RX1 67 md_X1_isLine 2 := ⟨zG.p [771, 772, 773, 18, 774] (by decide +kernel) (by decide +kernel), ⟨by decide, by decide, by decide +kernel⟩, by decide⟩
theorem l_X6_198 : zLkV RX6 198 md_X3_gamesWonBy 1 := ⟨zG.p [775, 776, 777, 20, 778] (by decide +kernel) (by decide +kernel), ⟨by decide, by decide, by decide +kernel⟩, by decide⟩
theorem l_L_132 : zLkH RL 132 md_L_numberOf 3 := ⟨zG.p [779, 780, 15, 781] (by decide +kernel) (by decide +kernel), ⟨by decide, by decide, by decide +kernel⟩, by decide⟩
theorem l_L_69 : zLkV RL 69 md_X6_numberOf 2 := ⟨zG.p [782, 783, 784, 16, 785] (by decide +kernel) (by decide +kernel), ⟨by decide, by decide, by decide +kernel⟩, by decide⟩
theorem l_L_129 : zLkH RL 129 md_L_called 3 := ⟨zG.p [786, 787, 15, 788] (by decide +kernel) (by decide +kernel), ⟨by decide, by decide, by decide +kernel⟩, by decide⟩
theorem l_L_72 : zLkV RL 72 md_X6_call 2 := ⟨zG.p [789, 790, 791, 16, 792] (by decide +kernel) (by decide +kernel), ⟨by decide, by decide, by decide +kernel⟩, by decide⟩
theorem l_L_144 : zLkH RL 144 md_L_gameOf 3 := ⟨zG.p [793, 794, 15, 795] (by decide +kernel) (by decide +kernel), ⟨by decide, by decide, by decide +kernel⟩, by decide⟩
theorem l_L_75 : zLkV RL 75 md_X6_gameOf 2 := ⟨zG.p [796, 797, 798, 16, 799] (by decide +kernel) (by decide +kernel), ⟨by decide, by decide, by decide +kernel⟩, by decide⟩
theorem l_X6_228 : zLkV RX6 228 md_X0_prizeForEach 1 := ⟨zG.p [800, 296, 297, 17, 298] (by decide +kernel) (by decide +kernel), ⟨by decide, by decide, by decide +kernel⟩, by decide⟩
theorem l_X6_231 : zLkS RX6 231 md_J6_bitCount_0f7a4 1 := ⟨zG.p [801, 300, 31, 301] (by decide +kernel) (by decide +kernel), ⟨by decide, by decide, by decide +kernel⟩, by decide⟩
theorem l_L_127 : zLkH RL 127 md_L_count 2 := ⟨zG.p [802, 803, 15, 804] (by decide +kernel) (by decide +kernel), ⟨by decide, by decide, by decide +kernel⟩, by decide⟩
theorem l_L_78 : zLkV RL 78 md_X6_count 1 := ⟨zG.p [805, 806, 807, 16, 808] (by decide +kernel) (by decide +kernel), ⟨by decide, by decide, by decide +kernel⟩, by decide⟩
theorem l_X6_236 : zLkV RX6 236 md_X1_wholeCards 0 := ⟨zG.p [809, 810, 811, 18, 812] (by decide +kernel) (by decide +kernel), ⟨by decide, by decide, by decide +kernel⟩, by decide⟩
theorem l_X1_56 : zLkV RX1 56 md_X1_isWhole 1 := ⟨zG.p [813, 334, 335, 18, 336] (by decide +kernel) (by decide +kernel), ⟨by decide, by decide, by decide +kernel⟩, by decide⟩
theorem l_X6_245 : zLkV RX6 245 md_X4_told 1 := ⟨zG.p [814, 815, 816, 22, 817] (by decide +kernel) (by decide +kernel), ⟨by decide, by decide, by decide +kernel⟩, by decide⟩
theorem l_L_178 : zLkH RL 178 md_L_setting 2 := ⟨zG.p [818, 819, 15, 820] (by decide +kernel) (by decide +kernel), ⟨by decide, by decide, by decide +kernel⟩, by decide⟩
theorem l_L_81 : zLkV RL 81 md_X6_setting 1 := ⟨zG.p [821, 822, 823, 16, 824] (by decide +kernel) (by decide +kernel), ⟨by decide, by decide, by decide +kernel⟩, by decide⟩
theorem l_L_172 : zLkH RL 172 md_L_whyNot 4 := ⟨zG.p [825, 826, 15, 827] (by decide +kernel) (by decide +kernel), ⟨by decide, by decide, by decide +kernel⟩, by decide⟩
theorem l_L_84 : zLkV RL 84 md_X6_whyNot 3 := ⟨zG.p [828, 829, 830, 16, 831] (by decide +kernel) (by decide +kernel), ⟨by decide, by decide, by decide +kernel⟩, by decide⟩
theorem l_X6_248 : zLkV RX6 248 md_X0_reasonAgainstPlace 2 := ⟨zG.p [832, 487, 488, 17, 489] (by decide +kernel) (by decide +kernel), ⟨by decide, by decide, by decide +kernel⟩, by decide⟩
theorem l_L_170 : zLkH RL 170 md_L_ifClaimed 3 := ⟨zG.p [833, 834, 15, 835] (by decide +kernel) (by decide +kernel), ⟨by decide, by decide, by decide +kernel⟩, by decide⟩
theorem l_L_87 : zLkV RL 87 md_X6_ifClaimed 2 := ⟨zG.p [836, 837, 838, 16, 839] (by decide +kernel) (by decide +kernel), ⟨by decide, by decide, by decide +kernel⟩, by decide⟩
theorem l_X6_251 : zLkV RX6 251 md_X0_reasonAgainstClaim 2 := ⟨zG.p [840, 644, 645, 17, 646] (by decide +kernel) (by decide +kernel), ⟨by decide, by decide, by decide +kernel⟩, by decide⟩
theorem l_L_140 : zLkH RL 140 md_L_missing 4 := ⟨zG.p [841, 842, 15, 843] (by decide +kernel) (by decide +kernel), ⟨by decide, by decide, by decide +kernel⟩, by decide⟩
theorem l_L_90 : zLkV RL 90 md_X6_missing 3 := ⟨zG.p [844, 845, 846, 16, 847] (by decide +kernel) (by decide +kernel), ⟨by decide, by decide, by decide +kernel⟩, by decide⟩
theorem l_X6_254 : zLkV RX6 254 md_X1_unmarkedOfGame 3 := ⟨zG.p [848, 648, 649, 18, 650] (by decide +kernel) (by decide +kernel), ⟨by decide, by decide, by decide +kernel⟩, by decide⟩
theorem l_X6_258 : zLkV RX6 258 md_X1_onlyUnmarked 3 := ⟨zG.p [849, 850, 851, 18, 852] (by decide +kernel) (by decide +kernel), ⟨by decide, by decide, by decide +kernel⟩, by decide⟩
theorem l_X1_84 : zLkV RX1 84 md_X1_firstUnmarkedCorner 2 := ⟨zG.p [853, 855, 12, 18, 856] (by decide +kernel) (by decide +kernel), ⟨by decide, by decide, by decide +kernel⟩, by decide⟩
theorem l_X1_87 : zLkV RX1 87 md_X1_firstUnmarkedIn 2 := ⟨zG.p [857, 859, 13, 18, 860] (by decide +kernel) (by decide +kernel), ⟨by decide, by decide, by decide +kernel⟩, by decide⟩
theorem l_L_138 : zLkH RL 138 md_L_fullAt 3 := ⟨zG.p [861, 862, 15, 863] (by decide +kernel) (by decide +kernel), ⟨by decide, by decide, by decide +kernel⟩, by decide⟩
theorem l_L_93 : zLkV RL 93 md_X6_fullAt 2 := ⟨zG.p [864, 865, 866, 16, 867] (by decide +kernel) (by decide +kernel), ⟨by decide, by decide, by decide +kernel⟩, by decide⟩
theorem l_X6_261 : zLkV RX6 261 md_X6_fullBallByBall 1 := ⟨zG.p [868, 870, 14, 16, 871] (by decide +kernel) (by decide +kernel), ⟨by decide, by decide, by decide +kernel⟩, by decide⟩
theorem l_L_142 : zLkH RL 142 md_L_next 2 := ⟨zG.p [872, 873, 15, 874] (by decide +kernel) (by decide +kernel), ⟨by decide, by decide, by decide +kernel⟩, by decide⟩
theorem l_L_96 : zLkV RL 96 md_X6_next 1 := ⟨zG.p [875, 876, 877, 16, 878] (by decide +kernel) (by decide +kernel), ⟨by decide, by decide, by decide +kernel⟩, by decide⟩
theorem l_L_162 : zLkS RL 162 md_L_lays 2 := ⟨zG.p [879, 880, 15, 881] (by decide +kernel) (by decide +kernel), ⟨by decide, by decide, by decide +kernel⟩, by decide⟩
theorem l_L_174 : zLkS RL 174 md_L_acts 2 := ⟨zG.p [882, 883, 15, 884] (by decide +kernel) (by decide +kernel), ⟨by decide, by decide, by decide +kernel⟩, by decide⟩
set_option maxRecDepth 100000 in
set_option maxHeartbeats 4000000 in
theorem l_L_180 : zLkS RL 180 md_L_hangs 1 := ⟨zG.p [885, 886, 15, 887] rfl (by decide +kernel), ⟨by decide, by decide, by decide +kernel⟩, by decide⟩
theorem l_L_146 : zLkS RL 146 md_L_bits 1 := ⟨zG.p [888, 889, 15, 890] (by decide +kernel) (by decide +kernel), ⟨by decide, by decide, by decide +kernel⟩, by decide⟩
theorem l_X3_11 : zLkIN RX3 11 md_X2_init 0 := ⟨zG.p [80, 21, 81] (by decide +kernel) (by decide +kernel), List.mem_of_getElem? (i := 79) (by decide +kernel), ⟨by decide, by decide, by decide +kernel⟩, by decide, rfl, rfl⟩
theorem l_X0_27 : zLkIN RX0 27 md_X4_init 0 := ⟨zG.p [147, 22, 148] (by decide +kernel) (by decide +kernel), List.mem_of_getElem? (i := 146) (by decide +kernel), ⟨by decide, by decide, by decide +kernel⟩, by decide, rfl, rfl⟩
theorem l_X6_29 : zLkIN RX6 29 md_X5_init 0 := ⟨zG.p [216, 24, 217] (by decide +kernel) (by decide +kernel), List.mem_of_getElem? (i := 215) (by decide +kernel), ⟨by decide, by decide, by decide +kernel⟩, by decide, rfl, rfl⟩
theorem l_X6_36 : zLkIN RX6 36 md_X2_init 0 := ⟨zG.p [80, 21, 81] (by decide +kernel) (by decide +kernel), List.mem_of_getElem? (i := 230) (by decide +kernel), ⟨by decide, by decide, by decide +kernel⟩, by decide, rfl, rfl⟩
theorem l_X1_34 : zLkSN RX1 34 md_X6_isNumber 1 := ⟨zG.p [354, 16, 355] (by decide +kernel) (by decide +kernel), List.mem_of_getElem? (i := 353) (by decide +kernel), ⟨by decide, by decide, by decide +kernel⟩, by decide⟩
theorem l_X0_82 : zLkSN RX0 82 md_X6_lotAfter 1 := ⟨zG.p [327, 16, 328] (by decide +kernel) (by decide +kernel), List.mem_of_getElem? (i := 562) (by decide +kernel), ⟨by decide, by decide, by decide +kernel⟩, by decide⟩
theorem l_X5_37 : zLkSN RX5 37 md_X6_isCard 1 := ⟨zG.p [386, 16, 387] (by decide +kernel) (by decide +kernel), List.mem_of_getElem? (i := 716) (by decide +kernel), ⟨by decide, by decide, by decide +kernel⟩, by decide⟩
theorem l_X5_41 : zLkSN RX5 41 md_X6_isGame 1 := ⟨zG.p [637, 16, 638] (by decide +kernel) (by decide +kernel), List.mem_of_getElem? (i := 717) (by decide +kernel), ⟨by decide, by decide, by decide +kernel⟩, by decide⟩
theorem l_X5_44 : zLkSN RX5 44 md_X6_isRow 1 := ⟨zG.p [389, 16, 390] (by decide +kernel) (by decide +kernel), List.mem_of_getElem? (i := 718) (by decide +kernel), ⟨by decide, by decide, by decide +kernel⟩, by decide⟩
theorem l_X5_47 : zLkSN RX5 47 md_X6_isNumber 1 := ⟨zG.p [354, 16, 355] (by decide +kernel) (by decide +kernel), List.mem_of_getElem? (i := 719) (by decide +kernel), ⟨by decide, by decide, by decide +kernel⟩, by decide⟩
theorem k_L_10 : zG [.classLink RL 10 "TombolaBooks"] := zG.p [33] (by decide +kernel) (by decide +kernel)
theorem nc_L_10 : zNewC RL 10 6 9 [.null, .null, .null, .null, .int (jI 0), .int (jI 0), .null, .null, .null] := ⟨_, _, tyX6, cl_6, zG.p [33, 34, 16] (by decide +kernel) (by decide +kernel), tyX6_ok, by intro j hj; match j, hj with
  | 0, _ => rfl
  | 1, _ => rfl
  | 2, _ => rfl
  | 3, _ => rfl
  | 4, _ => rfl
  | 5, _ => rfl
  | 6, _ => rfl
  | 7, _ => rfl
  | 8, _ => rfl, by decide +kernel⟩
theorem k_X6_7 : zG [.classLink RX6 7 "TombolaBooks$Book"] := zG.p [41] (by decide +kernel) (by decide +kernel)
theorem nc_X6_7 : zNewC RX6 7 0 5 [.null, .null, .null, .null, .int (jI 0)] := ⟨_, _, tyX0, cl_0, zG.p [41, 42, 17] (by decide +kernel) (by decide +kernel), tyX0_ok, by intro j hj; match j, hj with
  | 0, _ => rfl
  | 1, _ => rfl
  | 2, _ => rfl
  | 3, _ => rfl
  | 4, _ => rfl, by decide +kernel⟩
theorem k_X0_9 : zG [.classLink RX0 9 "TombolaBooks$Cards"] := zG.p [47] (by decide +kernel) (by decide +kernel)
theorem nc_X0_9 : zNewC RX0 9 1 3 [.null, .null, .int (jI 0)] := ⟨_, _, tyX1, cl_1, zG.p [47, 48, 18] (by decide +kernel) (by decide +kernel), tyX1_ok, by intro j hj; match j, hj with
  | 0, _ => rfl
  | 1, _ => rfl
  | 2, _ => rfl, by decide +kernel⟩
theorem ac_int : zG [.arrayClass .int] := zG.p [70] (by decide +kernel) (by decide +kernel)
theorem k_X0_18 : zG [.classLink RX0 18 "TombolaBooks$Evening"] := zG.p [71] (by decide +kernel) (by decide +kernel)
theorem nc_X0_18 : zNewC RX0 18 3 10 [.null, .null, .null, .null, .null, .null, .null, .int (jI 0), .int (jI 0), .int (jI 0)] := ⟨_, _, tyX3, cl_3, zG.p [71, 72, 20] (by decide +kernel) (by decide +kernel), tyX3_ok, by intro j hj; match j, hj with
  | 0, _ => rfl
  | 1, _ => rfl
  | 2, _ => rfl
  | 3, _ => rfl
  | 4, _ => rfl
  | 5, _ => rfl
  | 6, _ => rfl
  | 7, _ => rfl
  | 8, _ => rfl
  | 9, _ => rfl, by decide +kernel⟩
theorem k_X3_9 : zG [.classLink RX3 9 "TombolaBooks$Drum"] := zG.p [77] (by decide +kernel) (by decide +kernel)
theorem nc_X3_9 : zNewC RX3 9 2 2 [.null, .int (jI 0)] := ⟨_, _, tyX2, cl_2, zG.p [77, 78, 21] (by decide +kernel) (by decide +kernel), tyX2_ok, by intro j hj; match j, hj with
  | 0, _ => rfl
  | 1, _ => rfl, by decide +kernel⟩
theorem k_X0_25 : zG [.classLink RX0 25 "TombolaBooks$Tally"] := zG.p [144] (by decide +kernel) (by decide +kernel)
theorem nc_X0_25 : zNewC RX0 25 4 9 [.null, .null, .int (jI 0), .int (jI 0), .int (jI 0), .int (jI 0), .int (jI 0), .int (jI 0), .int (jI 0)] := ⟨_, _, tyX4, cl_4, zG.p [144, 145, 22] (by decide +kernel) (by decide +kernel), tyX4_ok, by intro j hj; match j, hj with
  | 0, _ => rfl
  | 1, _ => rfl
  | 2, _ => rfl
  | 3, _ => rfl
  | 4, _ => rfl
  | 5, _ => rfl
  | 6, _ => rfl
  | 7, _ => rfl
  | 8, _ => rfl, by decide +kernel⟩
theorem sf_X0_40 : Cond.fieldLinkNest RX0 40 "TombolaBooks" "FIRST_VALUES" "[I" "TombolaBooks" ∈ lw_tbl := List.mem_of_getElem? (i := 186) (by decide +kernel)
theorem k_X6_27 : zG [.classLink RX6 27 "TombolaBooks$Text"] := zG.p [213] (by decide +kernel) (by decide +kernel)
theorem nc_X6_27 : zNewC RX6 27 5 2 [.null, .int (jI 0)] := ⟨_, _, tyX5, cl_5, zG.p [213, 214, 24] (by decide +kernel) (by decide +kernel), tyX5_ok, by intro j hj; match j, hj with
  | 0, _ => rfl
  | 1, _ => rfl, by decide +kernel⟩
theorem ac_boolean : zG [.arrayClass .boolean] := zG.p [228] (by decide +kernel) (by decide +kernel)
theorem k_X6_34 : zG [.classLink RX6 34 "TombolaBooks$Drum"] := zG.p [229] (by decide +kernel) (by decide +kernel)
theorem nc_X6_34 : zNewC RX6 34 2 2 [.null, .int (jI 0)] := ⟨_, _, tyX2, cl_2, zG.p [229, 78, 21] (by decide +kernel) (by decide +kernel), tyX2_ok, by intro j hj; match j, hj with
  | 0, _ => rfl
  | 1, _ => rfl, by decide +kernel⟩
theorem k_J6_265 : zG [.constant RJ6 265 1431655765] := zG.p [302] (by decide +kernel) (by decide +kernel)
theorem k_J6_266 : zG [.constant RJ6 266 858993459] := zG.p [303] (by decide +kernel) (by decide +kernel)
theorem k_J6_267 : zG [.constant RJ6 267 252645135] := zG.p [304] (by decide +kernel) (by decide +kernel)
theorem sf_X0_171 : Cond.fieldLinkNest RX0 171 "TombolaBooks" "HUNDREDTHS" "[I" "TombolaBooks" ∈ lw_tbl := List.mem_of_getElem? (i := 305) (by decide +kernel)
theorem k_L_7 : zG [.constant RL 7 47123] := zG.p [374] (by decide +kernel) (by decide +kernel)
theorem k_L_8 : zG [.constant RL 8 2147483647] := zG.p [375] (by decide +kernel) (by decide +kernel)
theorem k_L_15 : zG [.classLink RL 15 "java/lang/IndexOutOfBoundsException"] := zG.p [379] (by decide +kernel) (by decide +kernel)
theorem k_L_18 : zG [.classLink RL 18 "java/lang/IllegalArgumentException"] := zG.p [380] (by decide +kernel) (by decide +kernel)
theorem k_X6_345 : zG [.classLink RX6 345 "java/lang/IndexOutOfBoundsException"] := zG.p [394] (by decide +kernel) (by decide +kernel)
theorem k_X6_352 : zG [.classLink RX6 352 "java/lang/IllegalArgumentException"] := zG.p [466] (by decide +kernel) (by decide +kernel)
theorem k_L_25 : zG [.classLink RL 25 "java/lang/IllegalStateException"] := zG.p [518] (by decide +kernel) (by decide +kernel)
theorem k_X6_357 : zG [.classLink RX6 357 "java/lang/IllegalStateException"] := zG.p [527] (by decide +kernel) (by decide +kernel)
theorem sf_X6_112 : zG [.fieldLink RX6 112 "TombolaBooks" "LEAST_VALUES" "[I"] := zG.p [610] (by decide +kernel) (by decide +kernel)
theorem sf_X6_115 : zG [.fieldLink RX6 115 "TombolaBooks" "GREATEST_VALUES" "[I"] := zG.p [612] (by decide +kernel) (by decide +kernel)
theorem ao_Book : Cond.arrayOver (.object "TombolaBooks$Book") ∈ lw_tbl := List.mem_of_getElem? (i := 212) (by decide +kernel)
