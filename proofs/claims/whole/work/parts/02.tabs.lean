-- the tables of this claim, written by wip/whole/gen_tabs.py
def cnm (i : Nat) : String := [RX0, RX1, RX2, RX3, RX4, RX5, RX6, RX7, RX8, RX9, RX10, RX11, RX12, "java/lang/Math", RJ0, RJ1, RJ2, RJ3, RL].getD i ""
/-- a method: name, code, locals, answer, its class, cells and slots that it makes at most -/
abbrev MI : Type := MethodName × ByteArray × Nat × Option FieldType × Nat × Nat × Nat
def Ptab_0 : List MI := [(yX0_init, cX0_init, 3, none, 0, 0, 0),
  (yX0_weightIf, cX0_weightIf, 8, (some .long), 0, 0, 0),
  (yX0_shareOf, cX0_shareOf, 6, (some .long), 0, 0, 0),
  (yX0_shareOfTwo, cX0_shareOfTwo, 8, (some .long), 0, 0, 0),
  (yX0_likeliest, cX0_likeliest, 7, (some .int), 0, 0, 0),
  (yX0_mostTelling, cX0_mostTelling, 7, (some .int), 0, 0, 0),
  (yX0_oddsUnseen, cX0_oddsUnseen, 10, (some .long), 0, 0, 0),
  (yX0_textsThatFit, cX0_textsThatFit, 3, (some .int), 0, 0, 0),
  (yX0_fits, cX0_fits, 5, (some .boolean), 0, 0, 0),
  (yX1_init, cX1_init, 1, none, 1, 49, 2049),
  (yX1_noteStep, cX1_noteStep, 1, none, 1, 0, 0),
  (yX1_takeBack, cX1_takeBack, 1, (some .boolean), 1, 0, 0),
  (yX1_latestStep, cX1_latestStep, 1, (some .int), 1, 0, 0),
  (yX1_hasText, cX1_hasText, 2, (some .boolean), 1, 0, 0),
  (yX1_textOf, cX1_textOf, 2, (some (.object "UntilHeConfesses$Text")), 1, 0, 0),
  (yX1_keepText, cX1_keepText, 2, (some .int), 1, 0, 0),
  (yX1_copyFrom, cX1_copyFrom, 3, none, 1, 0, 0),
  (yX2_init, cX2_init, 2, none, 2, 2, 49),
  (yX2_oddsNow, cX2_oddsNow, 4, (some .int), 2, 0, 0),
  (yX2_oddsBy, cX2_oddsBy, 7, (some .int), 2, 0, 0),
  (yX2_paysNow, cX2_paysNow, 4, (some .int), 2, 0, 0),
  (yX2_paidByAll, cX2_paidByAll, 4, (some .int), 2, 0, 0),
  (yX2_nameSuspect, cX2_nameSuspect, 3, none, 2, 0, 0),
  (yX2_run, cX2_run, 13, (some .int), 2, 0, 0),
  (yX2_counted, cX2_counted, 7, (some .int), 2, 0, 0),
  (yX3_init, cX3_init, 2, none, 3, 8, 55),
  (yX3_forget, cX3_forget, 2, (some .int), 3, 0, 0),
  (yX3_write, cX3_write, 6, (some .int), 3, 0, 0),
  (yX3_oneOf, cX3_oneOf, 3, (some .int), 3, 0, 0),
  (yX3_otherOf, cX3_otherOf, 3, (some .int), 3, 0, 0),
  (yX3_whatOf, cX3_whatOf, 3, (some .int), 3, 0, 0),
  (yX3_copyFrom, cX3_copyFrom, 3, none, 3, 0, 0),
  (yX4_init, cX4_init, 3, none, 4, 5, 156),
  (yX4_bestOrder, cX4_bestOrder, 9, (some .int), 4, 0, 0),
  (yX4_shownInOrder, cX4_shownInOrder, 7, (some .int), 4, 0, 0),
  (yX4_cheapestNights, cX4_cheapestNights, 13, (some .long), 4, 0, 0),
  (yX4_costOf, cX4_costOf, 12, (some .long), 4, 0, 0),
  (yX4_bestRun, cX4_bestRun, 18, (some .long), 4, 0, 0),
  (yX4_hottestSet, cX4_hottestSet, 9, (some .int), 4, 0, 0),
  (yX4_howManyOrders, cX4_howManyOrders, 5, (some .int), 4, 0, 0)]
def Ptab_1 : List MI := [(yX4_oddsOfMost, cX4_oddsOfMost, 9, (some .long), 4, 0, 0),
  (yX5_init, cX5_init, 3, none, 5, 2, 68),
  (yX5_cutByHand, cX5_cutByHand, 2, (some .boolean), 5, 0, 0),
  (yX5_encoreByHand, cX5_encoreByHand, 2, (some .boolean), 5, 0, 0),
  (yX5_sendByHand, cX5_sendByHand, 2, (some .boolean), 5, 0, 0),
  (yX5_seatByHand, cX5_seatByHand, 3, (some .boolean), 5, 0, 0),
  (yX5_nightsByHand, cX5_nightsByHand, 4, (some .int), 5, 0, 0),
  (yX5_giveNight, cX5_giveNight, 3, (some .int), 5, 0, 0),
  (yX5_giveScene, cX5_giveScene, 7, (some .int), 5, 0, 0),
  (yX5_playClause, cX5_playClause, 5, (some .boolean), 5, 0, 0),
  (yX5_drawSeasons, cX5_drawSeasons, 6, none, 5, 0, 0),
  (yX5_drawScene, cX5_drawScene, 4, none, 5, 0, 0),
  (yX5_drawSuspect, cX5_drawSuspect, 4, none, 5, 0, 0),
  (yX5_signsBehind, cX5_signsBehind, 3, (some .int), 5, 0, 0),
  (yX5_takingsBehind, cX5_takingsBehind, 3, (some .int), 5, 0, 0),
  (yX5_habitBehind, cX5_habitBehind, 4, (some .int), 5, 0, 0),
  (yX5_rehearse, cX5_rehearse, 4, (some .int), 5, 0, 0),
  (yX5_nightsToSign, cX5_nightsToSign, 4, (some .int), 5, 0, 0),
  (yX6_init, cX6_init, 2, none, 6, 6, 378),
  (yX6_readTape, cX6_readTape, 2, (some (.object "UntilHeConfesses$Text")), 6, 7, 385),
  (yX6_startAnew, cX6_startAnew, 2, none, 6, 0, 0),
  (yX6_makeText, cX6_makeText, 2, (some (.object "UntilHeConfesses$Text")), 6, 7, 385),
  (yX6_goOn, cX6_goOn, 1, none, 6, 0, 0),
  (yX6_fail, cX6_fail, 2, none, 6, 0, 0),
  (yX6_readClause, cX6_readClause, 2, none, 6, 0, 0),
  (yX6_readDeed, cX6_readDeed, 2, none, 6, 0, 0),
  (yX6_readTwo, cX6_readTwo, 5, none, 6, 0, 0),
  (yX6_readNumber, cX6_readNumber, 4, (some .int), 6, 0, 0),
  (yX6_pass, cX6_pass, 2, none, 6, 0, 0),
  (yX6_readSum, cX6_readSum, 6, none, 6, 0, 0),
  (yX6_readOne, cX6_readOne, 2, none, 6, 0, 0),
  (yX6_readName, cX6_readName, 3, none, 6, 0, 0),
  (yX6_readTotal, cX6_readTotal, 2, none, 6, 0, 0),
  (yX6_put, cX6_put, 3, none, 6, 0, 0),
  (yX7_init, cX7_init, 1, none, 7, 7, 78),
  (yX7_tellSuspect, cX7_tellSuspect, 5, (some .int), 7, 0, 0),
  (yX7_tellScene, cX7_tellScene, 4, (some .int), 7, 0, 0),
  (yX7_hasSuspect, cX7_hasSuspect, 2, (some .boolean), 7, 0, 0),
  (yX7_hasScene, cX7_hasScene, 2, (some .boolean), 7, 0, 0),
  (yX7_hasBoth, cX7_hasBoth, 3, (some .boolean), 7, 0, 0)]
def Ptab_2 : List MI := [(yX7_isGuilty, cX7_isGuilty, 2, (some .boolean), 7, 0, 0),
  (yX7_comes, cX7_comes, 2, (some .boolean), 7, 0, 0),
  (yX7_isCut, cX7_isCut, 2, (some .boolean), 7, 0, 0),
  (yX7_isEncored, cX7_isEncored, 2, (some .boolean), 7, 0, 0),
  (yX7_canEncore, cX7_canEncore, 2, (some .boolean), 7, 0, 0),
  (yX7_timesGiven, cX7_timesGiven, 2, (some .int), 7, 0, 0),
  (yX7_isFree, cX7_isFree, 3, (some .boolean), 7, 0, 0),
  (yX7_howManyGiven, cX7_howManyGiven, 1, (some .int), 7, 0, 0),
  (yX7_howManyCome, cX7_howManyCome, 1, (some .int), 7, 0, 0),
  (yX7_lengthOfNight, cX7_lengthOfNight, 3, (some .int), 7, 0, 0),
  (yX7_hottestGiven, cX7_hottestGiven, 4, (some .int), 7, 0, 0),
  (yX7_emptySeats, cX7_emptySeats, 4, (some .int), 7, 0, 0),
  (yX7_isTaken, cX7_isTaken, 3, (some .boolean), 7, 0, 0),
  (yX7_guiltyRows, cX7_guiltyRows, 3, (some .int), 7, 0, 0),
  (yX7_draw, cX7_draw, 2, (some .int), 7, 0, 0),
  (yX7_take, cX7_take, 2, none, 7, 0, 0),
  (yX7_writeSign, cX7_writeSign, 4, none, 7, 0, 0),
  (yX7_signAt, cX7_signAt, 2, (some .int), 7, 0, 0),
  (yX7_nightOfSign, cX7_nightOfSign, 2, (some .int), 7, 0, 0),
  (yX7_sceneOfSign, cX7_sceneOfSign, 2, (some .int), 7, 0, 0),
  (yX7_suspectOfSign, cX7_suspectOfSign, 2, (some .int), 7, 0, 0),
  (yX7_countSigns, cX7_countSigns, 6, (some .int), 7, 0, 0),
  (yX7_countFalse, cX7_countFalse, 3, (some .int), 7, 0, 0),
  (yX7_mostWritten, cX7_mostWritten, 5, (some .int), 7, 0, 0),
  (yX7_saveTo, cX7_saveTo, 3, none, 7, 0, 0),
  (yX7_restoreFrom, cX7_restoreFrom, 4, none, 7, 0, 0),
  (yX7_copyFrom, cX7_copyFrom, 2, none, 7, 0, 0),
  (yX8_init, cX8_init, 1, none, 8, 5, 1504),
  (yX8_hasRoom, cX8_hasRoom, 2, (some .boolean), 8, 0, 0),
  (yX8_addFour, cX8_addFour, 3, none, 8, 0, 0),
  (yX8_split, cX8_split, 2, none, 8, 0, 0),
  (yX8_goesOn, cX8_goesOn, 3, (some .boolean), 8, 0, 0),
  (yX8_startToken, cX8_startToken, 2, none, 8, 0, 0),
  (yX8_nameToken, cX8_nameToken, 3, none, 8, 0, 0),
  (yX8_numberAt, cX8_numberAt, 5, (some .int), 8, 0, 0),
  (yX8_wordKind, cX8_wordKind, 4, (some .int), 8, 0, 0),
  (yX8_isWord, cX8_isWord, 5, (some .boolean), 8, 0, 0),
  (yX8_isBlank, cX8_isBlank, 1, (some .boolean), 8, 0, 0),
  (yX8_isDigit, cX8_isDigit, 1, (some .boolean), 8, 0, 0),
  (yX8_isLetter, cX8_isLetter, 1, (some .boolean), 8, 0, 0)]
def Ptab_3 : List MI := [(yX8_markKind, cX8_markKind, 1, (some .int), 8, 0, 0),
  (yX8_spelling, cX8_spelling, 1, (some (.object "java/lang/String")), 8, 0, 0),
  (yX9_init, cX9_init, 3, none, 9, 6, 378),
  (yX9_hasLaw, cX9_hasLaw, 2, (some .boolean), 9, 0, 0),
  (yX10_init, cX10_init, 2, none, 10, 5, 30),
  (yX10_faces, cX10_faces, 4, (some .boolean), 10, 0, 0),
  (yX10_pairsAsNow, cX10_pairsAsNow, 1, (some .int), 10, 0, 0),
  (yX10_pairsOn, cX10_pairsOn, 5, (some .int), 10, 0, 0),
  (yX10_facedFrom, cX10_facedFrom, 5, (some .int), 10, 0, 0),
  (yX10_lonelyOnes, cX10_lonelyOnes, 3, (some .int), 10, 0, 0),
  (yX10_seatFacingMost, cX10_seatFacingMost, 7, (some .int), 10, 0, 0),
  (yX10_seatInBestSeating, cX10_seatInBestSeating, 3, (some .int), 10, 0, 0),
  (yX10_pairsOfBestSeating, cX10_pairsOfBestSeating, 7, (some .int), 10, 0, 0),
  (yX10_sortPlaces, cX10_sortPlaces, 5, none, 10, 0, 0),
  (yX10_sittingsByTorn, cX10_sittingsByTorn, 8, (some .int), 10, 0, 0),
  (yX10_fitsTorn, cX10_fitsTorn, 4, (some .boolean), 10, 0, 0),
  (yX10_sameAsKept, cX10_sameAsKept, 4, (some .int), 10, 0, 0),
  (yX11_init, cX11_init, 1, none, 11, 132, 6350),
  (yX11_suspect, cX11_suspect, 4, (some .int), 11, 0, 0),
  (yX11_scene, cX11_scene, 3, (some .int), 11, 0, 0),
  (yX11_feed, cX11_feed, 6, (some .int), 11, 0, 0),
  (yX11_end, cX11_end, 2, (some .int), 11, 0, 0),
  (yX11_text, cX11_text, 2, (some .int), 11, 7, 385),
  (yX11_fault, cX11_fault, 2, (some .int), 11, 0, 0),
  (yX11_by, cX11_by, 2, (some .boolean), 11, 0, 0),
  (yX11_cut, cX11_cut, 2, (some .int), 11, 0, 0),
  (yX11_encore, cX11_encore, 2, (some .boolean), 11, 0, 0),
  (yX11_away, cX11_away, 2, (some .int), 11, 0, 0),
  (yX11_seat, cX11_seat, 3, (some .boolean), 11, 0, 0),
  (yX11_night, cX11_night, 2, (some .int), 11, 0, 0),
  (yX11_played, cX11_played, 4, (some .int), 11, 0, 0),
  (yX11_seasons, cX11_seasons, 3, (some .int), 11, 0, 0),
  (yX11_undo, cX11_undo, 1, (some .int), 11, 0, 0),
  (yX11_ofSuspect, cX11_ofSuspect, 4, (some .int), 11, 0, 0),
  (yX11_ofScene, cX11_ofScene, 4, (some .int), 11, 0, 0),
  (yX11_is, cX11_is, 2, (some .int), 11, 0, 0),
  (yX11_book, cX11_book, 4, (some .int), 11, 0, 0),
  (yX11_odds, cX11_odds, 4, (some .int), 11, 0, 0),
  (yX11_weight, cX11_weight, 3, (some .boolean), 11, 0, 0),
  (yX11_observe, cX11_observe, 4, (some .int), 11, 0, 0)]
def Ptab_4 : List MI := [(yX11_share, cX11_share, 3, (some .long), 11, 0, 0),
  (yX11_tellsMost, cX11_tellsMost, 1, (some .int), 11, 0, 0),
  (yX11_guess, cX11_guess, 1, (some .int), 11, 0, 0),
  (yX11_both, cX11_both, 5, (some .long), 11, 0, 0),
  (yX11_foretold, cX11_foretold, 3, (some .int), 11, 0, 0),
  (yX11_habit, cX11_habit, 3, (some .int), 11, 0, 0),
  (yX11_firstSign, cX11_firstSign, 2, (some .int), 11, 0, 0),
  (yX11_order, cX11_order, 5, (some .int), 11, 0, 0),
  (yX11_unseen, cX11_unseen, 3, (some .long), 11, 0, 0),
  (yX11_risk, cX11_risk, 3, (some .boolean), 11, 0, 0),
  (yX11_staysAway, cX11_staysAway, 5, (some .long), 11, 0, 0),
  (yX11_toRun, cX11_toRun, 6, (some .long), 11, 0, 0),
  (yX11_cuts, cX11_cuts, 2, (some .int), 11, 0, 0),
  (yX11_lasts, cX11_lasts, 1, (some .int), 11, 0, 0),
  (yX11_ahead, cX11_ahead, 3, (some .int), 11, 0, 0),
  (yX11_orders, cX11_orders, 1, (some .int), 11, 0, 0),
  (yX11_facing, cX11_facing, 1, (some .int), 11, 0, 0),
  (yX11_seating, cX11_seating, 3, (some .int), 11, 0, 0),
  (yX11_lonely, cX11_lonely, 1, (some .int), 11, 0, 0),
  (yX11_bestSeat, cX11_bestSeat, 3, (some .int), 11, 0, 0),
  (yX11_worth, cX11_worth, 1, (some .int), 11, 0, 0),
  (yX11_torn, cX11_torn, 4, (some .int), 11, 0, 0),
  (yX11_sittings, cX11_sittings, 2, (some .int), 11, 0, 0),
  (yX11_claque, cX11_claque, 4, (some .long), 11, 0, 0),
  (yX11_sign, cX11_sign, 4, (some .int), 11, 0, 0),
  (yX11_whose, cX11_whose, 1, (some .int), 11, 0, 0),
  (yX11_signs, cX11_signs, 4, (some .int), 11, 0, 0),
  (yX11_crying, cX11_crying, 1, (some .int), 11, 0, 0),
  (yX11_empty, cX11_empty, 2, (some .int), 11, 0, 0),
  (yX11_hottest, cX11_hottest, 1, (some .int), 11, 0, 0),
  (yX11_suspected, cX11_suspected, 1, (some .int), 11, 0, 0),
  (yX11_falseSigns, cX11_falseSigns, 1, (some .int), 11, 0, 0),
  (yX11_image, cX11_image, 1, (some .int), 11, 0, 0),
  (yX11_back, cX11_back, 1, (some .int), 11, 0, 0),
  (yX11_about, cX11_about, 2, (some .int), 11, 0, 0),
  (yX11_hasBit, cX11_hasBit, 2, (some .boolean), 11, 0, 0),
  (yX11_countBits, cX11_countBits, 3, (some .int), 11, 0, 0),
  (yX11_isSet, cX11_isSet, 2, (some .boolean), 11, 0, 0),
  (yX11_membersOf, cX11_membersOf, 4, (some .int), 11, 0, 0),
  (yX11_within, cX11_within, 3, (some .int), 11, 0, 0)]
def Ptab_5 : List MI := [(yX11_power, cX11_power, 6, (some .long), 11, 0, 0),
  (yX11_lowestTerms, cX11_lowestTerms, 12, (some .long), 11, 0, 0),
  (yX11_nextOrder, cX11_nextOrder, 6, (some .boolean), 11, 0, 0),
  (yX11_swap, cX11_swap, 4, none, 11, 0, 0),
  (yX11_copyRow, cX11_copyRow, 3, none, 11, 0, 0),
  (yX12_init, cX12_init, 1, none, 12, 14, 8899),
  (yX12_copy, cX12_copy, 3, none, 12, 0, 0),
  (yX12_isIn, cX12_isIn, 3, (some .boolean), 12, 0, 0),
  (yX12_bounded, cX12_bounded, 4, (some .int), 12, 0, 0),
  (yX12_has, cX12_has, 2, (some .boolean), 12, 0, 0),
  (yX12_bits, cX12_bits, 3, (some .int), 12, 0, 0),
  (yX12_size, cX12_size, 1, (some .int), 12, 0, 0),
  (yX12_isSuspect, cX12_isSuspect, 2, (some .boolean), 12, 0, 0),
  (yX12_isScene, cX12_isScene, 2, (some .boolean), 12, 0, 0),
  (yX12_get, cX12_get, 3, (some .int), 12, 0, 0),
  (yX12_put, cX12_put, 4, none, 12, 0, 0),
  (yX12_of, cX12_of, 3, (some .int), 12, 0, 0),
  (yX12_lay, cX12_lay, 4, none, 12, 0, 0),
  (yX12_isFree, cX12_isFree, 3, (some .boolean), 12, 0, 0),
  (yX12_suspect, cX12_suspect, 5, (some .int), 12, 0, 0),
  (yX12_scene, cX12_scene, 4, (some .int), 12, 0, 0),
  (yX12_four, cX12_four, 3, none, 12, 0, 0),
  (yX12_feed, cX12_feed, 6, (some .int), 12, 0, 0),
  (yX12_end, cX12_end, 2, (some .int), 12, 0, 0),
  (yX12_byteAt, cX12_byteAt, 2, (some .int), 12, 0, 0),
  (yX12_isLetterByte, cX12_isLetterByte, 1, (some .boolean), 12, 0, 0),
  (yX12_isFigure, cX12_isFigure, 1, (some .boolean), 12, 0, 0),
  (yX12_isSign, cX12_isSign, 1, (some .boolean), 12, 0, 0),
  (yX12_nextToken, cX12_nextToken, 2, none, 12, 0, 0),
  (yX12_w2, cX12_w2, 2, (some .long), 12, 0, 0),
  (yX12_w3, cX12_w3, 3, (some .long), 12, 0, 0),
  (yX12_w4, cX12_w4, 4, (some .long), 12, 0, 0),
  (yX12_w5, cX12_w5, 5, (some .long), 12, 0, 0),
  (yX12_w6, cX12_w6, 6, (some .long), 12, 0, 0),
  (yX12_isWord, cX12_isWord, 3, (some .boolean), 12, 0, 0),
  (yX12_emit, cX12_emit, 3, none, 12, 0, 0),
  (yX12_isLong, cX12_isLong, 8, (some .boolean), 12, 0, 0),
  (yX12_nameOf, cX12_nameOf, 1, (some .int), 12, 0, 0),
  (yX12_isTotalling, cX12_isTotalling, 2, (some .boolean), 12, 0, 0),
  (yX12_isOf, cX12_isOf, 2, (some .boolean), 12, 0, 0)]
def Ptab_6 : List MI := [(yX12_rank, cX12_rank, 1, (some .int), 12, 0, 0),
  (yX12_settle, cX12_settle, 2, none, 12, 0, 0),
  (yX12_isOpen, cX12_isOpen, 2, (some .boolean), 12, 0, 0),
  (yX12_opened, cX12_opened, 2, (some .int), 12, 0, 0),
  (yX12_beginOne, cX12_beginOne, 2, (some .int), 12, 0, 0),
  (yX12_behindOne, cX12_behindOne, 2, (some .boolean), 12, 0, 0),
  (yX12_summed, cX12_summed, 2, (some .int), 12, 0, 0),
  (yX12_figure, cX12_figure, 4, (some .int), 12, 0, 0),
  (yX12_lawClause, cX12_lawClause, 3, (some .int), 12, 0, 0),
  (yX12_pair, cX12_pair, 8, (some .int), 12, 0, 0),
  (yX12_body, cX12_body, 3, (some .int), 12, 0, 0),
  (yX12_sortOf, cX12_sortOf, 1, (some .int), 12, 0, 0),
  (yX12_clause, cX12_clause, 5, (some .int), 12, 0, 0),
  (yX12_readText, cX12_readText, 2, (some .int), 12, 0, 0),
  (yX12_text, cX12_text, 1, (some .int), 12, 0, 0),
  (yX12_fault, cX12_fault, 2, (some .int), 12, 0, 0),
  (yX12_by, cX12_by, 2, (some .boolean), 12, 0, 0),
  (yX12_held, cX12_held, 2, (some .long), 12, 0, 0),
  (yX12_two, cX12_two, 5, (some .long), 12, 0, 0),
  (yX12_worked, cX12_worked, 13, (some .long), 12, 0, 0),
  (yX12_says, cX12_says, 6, (some .int), 12, 0, 0),
  (yX12_name, cX12_name, 2, none, 12, 0, 0),
  (yX12_oddsOf, cX12_oddsOf, 6, (some .int), 12, 0, 0),
  (yX12_paysOf, cX12_paysOf, 2, (some .int), 12, 0, 0),
  (yX12_drawn, cX12_drawn, 3, (some .int), 12, 0, 0),
  (yX12_anew, cX12_anew, 1, none, 12, 0, 0),
  (yX12_write, cX12_write, 4, none, 12, 0, 0),
  (yX12_give, cX12_give, 4, none, 12, 0, 0),
  (yX12_pass, cX12_pass, 3, none, 12, 0, 0),
  (yX12_keep, cX12_keep, 4, none, 12, 0, 0),
  (yX12_undo, cX12_undo, 4, (some .int), 12, 0, 0),
  (yX12_given, cX12_given, 3, (some .int), 12, 0, 0),
  (yX12_cut, cX12_cut, 2, (some .int), 12, 0, 0),
  (yX12_canEncore, cX12_canEncore, 2, (some .boolean), 12, 0, 0),
  (yX12_encore, cX12_encore, 2, (some .boolean), 12, 0, 0),
  (yX12_away, cX12_away, 4, (some .int), 12, 0, 0),
  (yX12_seat, cX12_seat, 3, (some .boolean), 12, 0, 0),
  (yX12_arePassed, cX12_arePassed, 3, (some .boolean), 12, 0, 0),
  (yX12_night, cX12_night, 2, (some .int), 12, 0, 0),
  (yX12_isPlayed, cX12_isPlayed, 4, (some .boolean), 12, 0, 0)]
def Ptab_7 : List MI := [(yX12_played, cX12_played, 3, (some .int), 12, 0, 0),
  (yX12_happens, cX12_happens, 4, none, 12, 0, 0),
  (yX12_seasons, cX12_seasons, 5, (some .int), 12, 0, 0),
  (yX12_ofSuspect, cX12_ofSuspect, 3, (some .int), 12, 0, 0),
  (yX12_ofScene, cX12_ofScene, 3, (some .int), 12, 0, 0),
  (yX12_is, cX12_is, 2, (some .int), 12, 0, 0),
  (yX12_entry, cX12_entry, 3, (some .int), 12, 0, 0),
  (yX12_book, cX12_book, 3, (some .int), 12, 0, 0),
  (yX12_odds, cX12_odds, 4, (some .int), 12, 0, 0),
  (yX12_signsOf, cX12_signsOf, 5, (some .int), 12, 0, 0),
  (yX12_signs, cX12_signs, 3, (some .int), 12, 0, 0),
  (yX12_crying, cX12_crying, 4, (some .int), 12, 0, 0),
  (yX12_falseSigns, cX12_falseSigns, 3, (some .int), 12, 0, 0),
  (yX12_isTaken, cX12_isTaken, 3, (some .boolean), 12, 0, 0),
  (yX12_empty, cX12_empty, 4, (some .int), 12, 0, 0),
  (yX12_hottest, cX12_hottest, 3, (some .int), 12, 0, 0),
  (yX12_suspected, cX12_suspected, 3, (some .int), 12, 0, 0),
  (yX12_weight, cX12_weight, 3, (some .boolean), 12, 0, 0),
  (yX12_observe, cX12_observe, 5, (some .int), 12, 0, 0),
  (yX12_likely, cX12_likely, 7, (some .long), 12, 0, 0),
  (yX12_common, cX12_common, 10, (some .long), 12, 0, 0),
  (yX12_part, cX12_part, 5, (some .long), 12, 0, 0),
  (yX12_likelyOf, cX12_likelyOf, 5, (some .long), 12, 0, 0),
  (yX12_share, cX12_share, 3, (some .long), 12, 0, 0),
  (yX12_both, cX12_both, 4, (some .long), 12, 0, 0),
  (yX12_guess, cX12_guess, 5, (some .int), 12, 0, 0),
  (yX12_telling, cX12_telling, 4, (some .int), 12, 0, 0),
  (yX12_tellsMost, cX12_tellsMost, 3, (some .int), 12, 0, 0),
  (yX12_begin, cX12_begin, 2, none, 12, 0, 0),
  (yX12_putBack, cX12_putBack, 2, none, 12, 0, 0),
  (yX12_behind, cX12_behind, 4, (some .int), 12, 0, 0),
  (yX12_foretold, cX12_foretold, 4, (some .int), 12, 0, 0),
  (yX12_habit, cX12_habit, 3, (some .int), 12, 0, 0),
  (yX12_firstSign, cX12_firstSign, 4, (some .int), 12, 0, 0),
  (yX12_layMembers, cX12_layMembers, 4, (some .int), 12, 0, 0),
  (yX12_nextRow, cX12_nextRow, 7, (some .boolean), 12, 0, 0),
  (yX12_shownBy, cX12_shownBy, 8, (some .int), 12, 0, 0),
  (yX12_order, cX12_order, 9, (some .int), 12, 0, 0),
  (yX12_unseen, cX12_unseen, 9, (some .long), 12, 0, 0),
  (yX12_risk, cX12_risk, 3, (some .boolean), 12, 0, 0)]
def Ptab_8 : List MI := [(yX12_tens, cX12_tens, 4, (some .long), 12, 0, 0),
  (yX12_awayCost, cX12_awayCost, 8, (some .long), 12, 0, 0),
  (yX12_staysAway, cX12_staysAway, 7, (some .long), 12, 0, 0),
  (yX12_toRun, cX12_toRun, 15, (some .long), 12, 0, 0),
  (yX12_sumOf, cX12_sumOf, 5, (some .int), 12, 0, 0),
  (yX12_cuts, cX12_cuts, 5, (some .int), 12, 0, 0),
  (yX12_lasts, cX12_lasts, 3, (some .int), 12, 0, 0),
  (yX12_ahead, cX12_ahead, 3, (some .int), 12, 0, 0),
  (yX12_canCome, cX12_canCome, 4, (some .boolean), 12, 0, 0),
  (yX12_orders, cX12_orders, 3, (some .int), 12, 0, 0),
  (yX12_areFacing, cX12_areFacing, 2, (some .boolean), 12, 0, 0),
  (yX12_laySeats, cX12_laySeats, 2, none, 12, 0, 0),
  (yX12_facingNow, cX12_facingNow, 4, (some .int), 12, 0, 0),
  (yX12_facing, cX12_facing, 1, (some .int), 12, 0, 0),
  (yX12_facedBy, cX12_facedBy, 5, (some .int), 12, 0, 0),
  (yX12_lonely, cX12_lonely, 3, (some .int), 12, 0, 0),
  (yX12_bestSeat, cX12_bestSeat, 5, (some .int), 12, 0, 0),
  (yX12_worth, cX12_worth, 3, (some .int), 12, 0, 0),
  (yX12_sortSeats, cX12_sortSeats, 4, none, 12, 0, 0),
  (yX12_seating, cX12_seating, 8, (some .int), 12, 0, 0),
  (yX12_torn, cX12_torn, 5, (some .int), 12, 0, 0),
  (yX12_isAsTorn, cX12_isAsTorn, 2, (some .boolean), 12, 0, 0),
  (yX12_sittings, cX12_sittings, 7, (some .int), 12, 0, 0),
  (yX12_claque, cX12_claque, 12, (some .long), 12, 0, 0),
  (yX12_sign, cX12_sign, 5, (some .int), 12, 0, 0),
  (yX12_whose, cX12_whose, 5, (some .int), 12, 0, 0),
  (yX12_image, cX12_image, 1, (some .int), 12, 0, 0),
  (yX12_back, cX12_back, 1, (some .int), 12, 0, 0),
  (yX12_about, cX12_about, 2, (some .int), 12, 0, 0),
  (yJ9_floorMod_7cf53, cJ9_floorMod_7cf53, 3, (some .int), 13, 0, 0),
  (yJ9_abs_0f7a4, cJ9_abs_0f7a4, 1, (some .int), 13, 0, 0),
  (yJ9_max_7cf53, cJ9_max_7cf53, 2, (some .int), 13, 0, 0),
  (yJ9_min_7cf53, cJ9_min_7cf53, 2, (some .int), 13, 0, 0),
  (yJ0_length_8abf5, cJ0_length_8abf5, 1, (some .int), 14, 0, 0),
  (yJ0_charAt_5068e, cJ0_charAt_5068e, 2, (some .char), 14, 0, 0),
  (yJ0_coder_7d493, cJ0_coder_7d493, 1, (some .byte), 14, 0, 0),
  (yJ0_isLatin1_aae02, cJ0_isLatin1_aae02, 1, (some .boolean), 14, 0, 0),
  (yJ0_checkIndex_df160, cJ0_checkIndex_df160, 2, none, 14, 0, 0),
  (yJ1_charAt_3b067, cJ1_charAt_3b067, 2, (some .char), 15, 0, 0),
  (yJ2_getChar_3b067, cJ2_getChar_3b067, 2, (some .char), 16, 0, 0)]
def Ptab_9 : List MI := [(yJ2_length_9d52b, cJ2_length_9d52b, 1, (some .int), 16, 0, 0),
  (yJ2_charAt_3b067, cJ2_charAt_3b067, 2, (some .char), 16, 0, 0),
  (yJ2_checkIndex_2214a, cJ2_checkIndex_2214a, 2, none, 16, 0, 0),
  (yJ3_checkIndex_8e157, cJ3_checkIndex_8e157, 3, (some .int), 17, 0, 0)]
def Ptab (i : Nat) : MI := (match i / 40 with | 0 => Ptab_0 | 1 => Ptab_1 | 2 => Ptab_2 | 3 => Ptab_3 | 4 => Ptab_4 | 5 => Ptab_5 | 6 => Ptab_6 | 7 => Ptab_7 | 8 => Ptab_8 | _ => Ptab_9).getD (i % 40) (x, code, 4, some .boolean, 18, 700676, 7000219)
abbrev Py (M : Nat) : MethodName := (Ptab M).1
abbrev Pcc (M : Nat) : ByteArray := (Ptab M).2.1
abbrev PnL (M : Nat) : Nat := (Ptab M).2.2.1
abbrev Pret (M : Nat) : Option FieldType := (Ptab M).2.2.2.1
abbrev Pown (M : Nat) : Nat := (Ptab M).2.2.2.2.1
abbrev Pmc (M : Nat) : Nat := (Ptab M).2.2.2.2.2.1
abbrev Pms (M : Nat) : Nat := (Ptab M).2.2.2.2.2.2
def PN : Nat := 364
abbrev m_X0_init : Nat := 0
abbrev m_X0_weightIf : Nat := 1
abbrev m_X0_shareOf : Nat := 2
abbrev m_X0_shareOfTwo : Nat := 3
abbrev m_X0_likeliest : Nat := 4
abbrev m_X0_mostTelling : Nat := 5
abbrev m_X0_oddsUnseen : Nat := 6
abbrev m_X0_textsThatFit : Nat := 7
abbrev m_X0_fits : Nat := 8
abbrev m_X1_init : Nat := 9
abbrev m_X1_noteStep : Nat := 10
abbrev m_X1_takeBack : Nat := 11
abbrev m_X1_latestStep : Nat := 12
abbrev m_X1_hasText : Nat := 13
abbrev m_X1_textOf : Nat := 14
abbrev m_X1_keepText : Nat := 15
abbrev m_X1_copyFrom : Nat := 16
abbrev m_X2_init : Nat := 17
abbrev m_X2_oddsNow : Nat := 18
abbrev m_X2_oddsBy : Nat := 19
abbrev m_X2_paysNow : Nat := 20
abbrev m_X2_paidByAll : Nat := 21
abbrev m_X2_nameSuspect : Nat := 22
abbrev m_X2_run : Nat := 23
abbrev m_X2_counted : Nat := 24
abbrev m_X3_init : Nat := 25
abbrev m_X3_forget : Nat := 26
abbrev m_X3_write : Nat := 27
abbrev m_X3_oneOf : Nat := 28
abbrev m_X3_otherOf : Nat := 29
abbrev m_X3_whatOf : Nat := 30
abbrev m_X3_copyFrom : Nat := 31
abbrev m_X4_init : Nat := 32
abbrev m_X4_bestOrder : Nat := 33
abbrev m_X4_shownInOrder : Nat := 34
abbrev m_X4_cheapestNights : Nat := 35
abbrev m_X4_costOf : Nat := 36
abbrev m_X4_bestRun : Nat := 37
abbrev m_X4_hottestSet : Nat := 38
abbrev m_X4_howManyOrders : Nat := 39
abbrev m_X4_oddsOfMost : Nat := 40
abbrev m_X5_init : Nat := 41
abbrev m_X5_cutByHand : Nat := 42
abbrev m_X5_encoreByHand : Nat := 43
abbrev m_X5_sendByHand : Nat := 44
abbrev m_X5_seatByHand : Nat := 45
abbrev m_X5_nightsByHand : Nat := 46
abbrev m_X5_giveNight : Nat := 47
abbrev m_X5_giveScene : Nat := 48
abbrev m_X5_playClause : Nat := 49
abbrev m_X5_drawSeasons : Nat := 50
abbrev m_X5_drawScene : Nat := 51
abbrev m_X5_drawSuspect : Nat := 52
abbrev m_X5_signsBehind : Nat := 53
abbrev m_X5_takingsBehind : Nat := 54
abbrev m_X5_habitBehind : Nat := 55
abbrev m_X5_rehearse : Nat := 56
abbrev m_X5_nightsToSign : Nat := 57
abbrev m_X6_init : Nat := 58
abbrev m_X6_readTape : Nat := 59
abbrev m_X6_startAnew : Nat := 60
abbrev m_X6_makeText : Nat := 61
abbrev m_X6_goOn : Nat := 62
abbrev m_X6_fail : Nat := 63
abbrev m_X6_readClause : Nat := 64
abbrev m_X6_readDeed : Nat := 65
abbrev m_X6_readTwo : Nat := 66
abbrev m_X6_readNumber : Nat := 67
abbrev m_X6_pass : Nat := 68
abbrev m_X6_readSum : Nat := 69
abbrev m_X6_readOne : Nat := 70
abbrev m_X6_readName : Nat := 71
abbrev m_X6_readTotal : Nat := 72
abbrev m_X6_put : Nat := 73
abbrev m_X7_init : Nat := 74
abbrev m_X7_tellSuspect : Nat := 75
abbrev m_X7_tellScene : Nat := 76
abbrev m_X7_hasSuspect : Nat := 77
abbrev m_X7_hasScene : Nat := 78
abbrev m_X7_hasBoth : Nat := 79
abbrev m_X7_isGuilty : Nat := 80
abbrev m_X7_comes : Nat := 81
abbrev m_X7_isCut : Nat := 82
abbrev m_X7_isEncored : Nat := 83
abbrev m_X7_canEncore : Nat := 84
abbrev m_X7_timesGiven : Nat := 85
abbrev m_X7_isFree : Nat := 86
abbrev m_X7_howManyGiven : Nat := 87
abbrev m_X7_howManyCome : Nat := 88
abbrev m_X7_lengthOfNight : Nat := 89
abbrev m_X7_hottestGiven : Nat := 90
abbrev m_X7_emptySeats : Nat := 91
abbrev m_X7_isTaken : Nat := 92
abbrev m_X7_guiltyRows : Nat := 93
abbrev m_X7_draw : Nat := 94
abbrev m_X7_take : Nat := 95
abbrev m_X7_writeSign : Nat := 96
abbrev m_X7_signAt : Nat := 97
abbrev m_X7_nightOfSign : Nat := 98
abbrev m_X7_sceneOfSign : Nat := 99
abbrev m_X7_suspectOfSign : Nat := 100
abbrev m_X7_countSigns : Nat := 101
abbrev m_X7_countFalse : Nat := 102
abbrev m_X7_mostWritten : Nat := 103
abbrev m_X7_saveTo : Nat := 104
abbrev m_X7_restoreFrom : Nat := 105
abbrev m_X7_copyFrom : Nat := 106
abbrev m_X8_init : Nat := 107
abbrev m_X8_hasRoom : Nat := 108
abbrev m_X8_addFour : Nat := 109
abbrev m_X8_split : Nat := 110
abbrev m_X8_goesOn : Nat := 111
abbrev m_X8_startToken : Nat := 112
abbrev m_X8_nameToken : Nat := 113
abbrev m_X8_numberAt : Nat := 114
abbrev m_X8_wordKind : Nat := 115
abbrev m_X8_isWord : Nat := 116
abbrev m_X8_isBlank : Nat := 117
abbrev m_X8_isDigit : Nat := 118
abbrev m_X8_isLetter : Nat := 119
abbrev m_X8_markKind : Nat := 120
abbrev m_X8_spelling : Nat := 121
abbrev m_X9_init : Nat := 122
abbrev m_X9_hasLaw : Nat := 123
abbrev m_X10_init : Nat := 124
abbrev m_X10_faces : Nat := 125
abbrev m_X10_pairsAsNow : Nat := 126
abbrev m_X10_pairsOn : Nat := 127
abbrev m_X10_facedFrom : Nat := 128
abbrev m_X10_lonelyOnes : Nat := 129
abbrev m_X10_seatFacingMost : Nat := 130
abbrev m_X10_seatInBestSeating : Nat := 131
abbrev m_X10_pairsOfBestSeating : Nat := 132
abbrev m_X10_sortPlaces : Nat := 133
abbrev m_X10_sittingsByTorn : Nat := 134
abbrev m_X10_fitsTorn : Nat := 135
abbrev m_X10_sameAsKept : Nat := 136
abbrev m_X11_init : Nat := 137
abbrev m_X11_suspect : Nat := 138
abbrev m_X11_scene : Nat := 139
abbrev m_X11_feed : Nat := 140
abbrev m_X11_end : Nat := 141
abbrev m_X11_text : Nat := 142
abbrev m_X11_fault : Nat := 143
abbrev m_X11_by : Nat := 144
abbrev m_X11_cut : Nat := 145
abbrev m_X11_encore : Nat := 146
abbrev m_X11_away : Nat := 147
abbrev m_X11_seat : Nat := 148
abbrev m_X11_night : Nat := 149
abbrev m_X11_played : Nat := 150
abbrev m_X11_seasons : Nat := 151
abbrev m_X11_undo : Nat := 152
abbrev m_X11_ofSuspect : Nat := 153
abbrev m_X11_ofScene : Nat := 154
abbrev m_X11_is : Nat := 155
abbrev m_X11_book : Nat := 156
abbrev m_X11_odds : Nat := 157
abbrev m_X11_weight : Nat := 158
abbrev m_X11_observe : Nat := 159
abbrev m_X11_share : Nat := 160
abbrev m_X11_tellsMost : Nat := 161
abbrev m_X11_guess : Nat := 162
abbrev m_X11_both : Nat := 163
abbrev m_X11_foretold : Nat := 164
abbrev m_X11_habit : Nat := 165
abbrev m_X11_firstSign : Nat := 166
abbrev m_X11_order : Nat := 167
abbrev m_X11_unseen : Nat := 168
abbrev m_X11_risk : Nat := 169
abbrev m_X11_staysAway : Nat := 170
abbrev m_X11_toRun : Nat := 171
abbrev m_X11_cuts : Nat := 172
abbrev m_X11_lasts : Nat := 173
abbrev m_X11_ahead : Nat := 174
abbrev m_X11_orders : Nat := 175
abbrev m_X11_facing : Nat := 176
abbrev m_X11_seating : Nat := 177
abbrev m_X11_lonely : Nat := 178
abbrev m_X11_bestSeat : Nat := 179
abbrev m_X11_worth : Nat := 180
abbrev m_X11_torn : Nat := 181
abbrev m_X11_sittings : Nat := 182
abbrev m_X11_claque : Nat := 183
abbrev m_X11_sign : Nat := 184
abbrev m_X11_whose : Nat := 185
abbrev m_X11_signs : Nat := 186
abbrev m_X11_crying : Nat := 187
abbrev m_X11_empty : Nat := 188
abbrev m_X11_hottest : Nat := 189
abbrev m_X11_suspected : Nat := 190
abbrev m_X11_falseSigns : Nat := 191
abbrev m_X11_image : Nat := 192
abbrev m_X11_back : Nat := 193
abbrev m_X11_about : Nat := 194
abbrev m_X11_hasBit : Nat := 195
abbrev m_X11_countBits : Nat := 196
abbrev m_X11_isSet : Nat := 197
abbrev m_X11_membersOf : Nat := 198
abbrev m_X11_within : Nat := 199
abbrev m_X11_power : Nat := 200
abbrev m_X11_lowestTerms : Nat := 201
abbrev m_X11_nextOrder : Nat := 202
abbrev m_X11_swap : Nat := 203
abbrev m_X11_copyRow : Nat := 204
abbrev m_X12_init : Nat := 205
abbrev m_X12_copy : Nat := 206
abbrev m_X12_isIn : Nat := 207
abbrev m_X12_bounded : Nat := 208
abbrev m_X12_has : Nat := 209
abbrev m_X12_bits : Nat := 210
abbrev m_X12_size : Nat := 211
abbrev m_X12_isSuspect : Nat := 212
abbrev m_X12_isScene : Nat := 213
abbrev m_X12_get : Nat := 214
abbrev m_X12_put : Nat := 215
abbrev m_X12_of : Nat := 216
abbrev m_X12_lay : Nat := 217
abbrev m_X12_isFree : Nat := 218
abbrev m_X12_suspect : Nat := 219
abbrev m_X12_scene : Nat := 220
abbrev m_X12_four : Nat := 221
abbrev m_X12_feed : Nat := 222
abbrev m_X12_end : Nat := 223
abbrev m_X12_byteAt : Nat := 224
abbrev m_X12_isLetterByte : Nat := 225
abbrev m_X12_isFigure : Nat := 226
abbrev m_X12_isSign : Nat := 227
abbrev m_X12_nextToken : Nat := 228
abbrev m_X12_w2 : Nat := 229
abbrev m_X12_w3 : Nat := 230
abbrev m_X12_w4 : Nat := 231
abbrev m_X12_w5 : Nat := 232
abbrev m_X12_w6 : Nat := 233
abbrev m_X12_isWord : Nat := 234
abbrev m_X12_emit : Nat := 235
abbrev m_X12_isLong : Nat := 236
abbrev m_X12_nameOf : Nat := 237
abbrev m_X12_isTotalling : Nat := 238
abbrev m_X12_isOf : Nat := 239
abbrev m_X12_rank : Nat := 240
abbrev m_X12_settle : Nat := 241
abbrev m_X12_isOpen : Nat := 242
abbrev m_X12_opened : Nat := 243
abbrev m_X12_beginOne : Nat := 244
abbrev m_X12_behindOne : Nat := 245
abbrev m_X12_summed : Nat := 246
abbrev m_X12_figure : Nat := 247
abbrev m_X12_lawClause : Nat := 248
abbrev m_X12_pair : Nat := 249
abbrev m_X12_body : Nat := 250
abbrev m_X12_sortOf : Nat := 251
abbrev m_X12_clause : Nat := 252
abbrev m_X12_readText : Nat := 253
abbrev m_X12_text : Nat := 254
abbrev m_X12_fault : Nat := 255
abbrev m_X12_by : Nat := 256
abbrev m_X12_held : Nat := 257
abbrev m_X12_two : Nat := 258
abbrev m_X12_worked : Nat := 259
abbrev m_X12_says : Nat := 260
abbrev m_X12_name : Nat := 261
abbrev m_X12_oddsOf : Nat := 262
abbrev m_X12_paysOf : Nat := 263
abbrev m_X12_drawn : Nat := 264
abbrev m_X12_anew : Nat := 265
abbrev m_X12_write : Nat := 266
abbrev m_X12_give : Nat := 267
abbrev m_X12_pass : Nat := 268
abbrev m_X12_keep : Nat := 269
abbrev m_X12_undo : Nat := 270
abbrev m_X12_given : Nat := 271
abbrev m_X12_cut : Nat := 272
abbrev m_X12_canEncore : Nat := 273
abbrev m_X12_encore : Nat := 274
abbrev m_X12_away : Nat := 275
abbrev m_X12_seat : Nat := 276
abbrev m_X12_arePassed : Nat := 277
abbrev m_X12_night : Nat := 278
abbrev m_X12_isPlayed : Nat := 279
abbrev m_X12_played : Nat := 280
abbrev m_X12_happens : Nat := 281
abbrev m_X12_seasons : Nat := 282
abbrev m_X12_ofSuspect : Nat := 283
abbrev m_X12_ofScene : Nat := 284
abbrev m_X12_is : Nat := 285
abbrev m_X12_entry : Nat := 286
abbrev m_X12_book : Nat := 287
abbrev m_X12_odds : Nat := 288
abbrev m_X12_signsOf : Nat := 289
abbrev m_X12_signs : Nat := 290
abbrev m_X12_crying : Nat := 291
abbrev m_X12_falseSigns : Nat := 292
abbrev m_X12_isTaken : Nat := 293
abbrev m_X12_empty : Nat := 294
abbrev m_X12_hottest : Nat := 295
abbrev m_X12_suspected : Nat := 296
abbrev m_X12_weight : Nat := 297
abbrev m_X12_observe : Nat := 298
abbrev m_X12_likely : Nat := 299
abbrev m_X12_common : Nat := 300
abbrev m_X12_part : Nat := 301
abbrev m_X12_likelyOf : Nat := 302
abbrev m_X12_share : Nat := 303
abbrev m_X12_both : Nat := 304
abbrev m_X12_guess : Nat := 305
abbrev m_X12_telling : Nat := 306
abbrev m_X12_tellsMost : Nat := 307
abbrev m_X12_begin : Nat := 308
abbrev m_X12_putBack : Nat := 309
abbrev m_X12_behind : Nat := 310
abbrev m_X12_foretold : Nat := 311
abbrev m_X12_habit : Nat := 312
abbrev m_X12_firstSign : Nat := 313
abbrev m_X12_layMembers : Nat := 314
abbrev m_X12_nextRow : Nat := 315
abbrev m_X12_shownBy : Nat := 316
abbrev m_X12_order : Nat := 317
abbrev m_X12_unseen : Nat := 318
abbrev m_X12_risk : Nat := 319
abbrev m_X12_tens : Nat := 320
abbrev m_X12_awayCost : Nat := 321
abbrev m_X12_staysAway : Nat := 322
abbrev m_X12_toRun : Nat := 323
abbrev m_X12_sumOf : Nat := 324
abbrev m_X12_cuts : Nat := 325
abbrev m_X12_lasts : Nat := 326
abbrev m_X12_ahead : Nat := 327
abbrev m_X12_canCome : Nat := 328
abbrev m_X12_orders : Nat := 329
abbrev m_X12_areFacing : Nat := 330
abbrev m_X12_laySeats : Nat := 331
abbrev m_X12_facingNow : Nat := 332
abbrev m_X12_facing : Nat := 333
abbrev m_X12_facedBy : Nat := 334
abbrev m_X12_lonely : Nat := 335
abbrev m_X12_bestSeat : Nat := 336
abbrev m_X12_worth : Nat := 337
abbrev m_X12_sortSeats : Nat := 338
abbrev m_X12_seating : Nat := 339
abbrev m_X12_torn : Nat := 340
abbrev m_X12_isAsTorn : Nat := 341
abbrev m_X12_sittings : Nat := 342
abbrev m_X12_claque : Nat := 343
abbrev m_X12_sign : Nat := 344
abbrev m_X12_whose : Nat := 345
abbrev m_X12_image : Nat := 346
abbrev m_X12_back : Nat := 347
abbrev m_X12_about : Nat := 348
abbrev m_J9_floorMod_7cf53 : Nat := 349
abbrev m_J9_abs_0f7a4 : Nat := 350
abbrev m_J9_max_7cf53 : Nat := 351
abbrev m_J9_min_7cf53 : Nat := 352
abbrev m_J0_length_8abf5 : Nat := 353
abbrev m_J0_charAt_5068e : Nat := 354
abbrev m_J0_coder_7d493 : Nat := 355
abbrev m_J0_isLatin1_aae02 : Nat := 356
abbrev m_J0_checkIndex_df160 : Nat := 357
abbrev m_J1_charAt_3b067 : Nat := 358
abbrev m_J2_getChar_3b067 : Nat := 359
abbrev m_J2_length_9d52b : Nat := 360
abbrev m_J2_charAt_3b067 : Nat := 361
abbrev m_J2_checkIndex_2214a : Nat := 362
abbrev m_J3_checkIndex_8e157 : Nat := 363
def codew (M : Nat) : Cond := .code (Py M) (Pcc M) (PnL M) (Pret M)
theorem in_t1 {w : Cond} (h : w ∈ tables_1_1) : w ∈ lw_tbl := List.mem_append_right _ (List.mem_append_left _ h)
theorem in_t2 {w : Cond} (h : w ∈ tables_1_2) : w ∈ lw_tbl := List.mem_append_right _ (List.mem_append_right _ (List.mem_append_left _ h))
theorem in_t3 {w : Cond} (h : w ∈ tables_1_3) : w ∈ lw_tbl := List.mem_append_right _ (List.mem_append_right _ (List.mem_append_right _ (List.mem_append_left _ h)))
theorem in_t4 {w : Cond} (h : w ∈ tables_1_4) : w ∈ lw_tbl := List.mem_append_right _ (List.mem_append_right _ (List.mem_append_right _ (List.mem_append_right _ (List.mem_append_left _ h))))
theorem in_t5 {w : Cond} (h : w ∈ tables_1_5) : w ∈ lw_tbl := List.mem_append_right _ (List.mem_append_right _ (List.mem_append_right _ (List.mem_append_right _ (List.mem_append_right _ (List.mem_append_left _ h)))))
theorem in_t6 {w : Cond} (h : w ∈ tables_1_6) : w ∈ lw_tbl := List.mem_append_right _ (List.mem_append_right _ (List.mem_append_right _ (List.mem_append_right _ (List.mem_append_right _ (List.mem_append_right _ (List.mem_append_left _ h))))))
theorem in_t7 {w : Cond} (h : w ∈ tables_1_7) : w ∈ lw_tbl := List.mem_append_right _ (List.mem_append_right _ (List.mem_append_right _ (List.mem_append_right _ (List.mem_append_right _ (List.mem_append_right _ (List.mem_append_right _ (List.mem_append_left _ h)))))))
theorem in_t8 {w : Cond} (h : w ∈ tables_1_8) : w ∈ lw_tbl := List.mem_append_right _ (List.mem_append_right _ (List.mem_append_right _ (List.mem_append_right _ (List.mem_append_right _ (List.mem_append_right _ (List.mem_append_right _ (List.mem_append_right _ (List.mem_append_left _ h))))))))
theorem in_t9 {w : Cond} (h : w ∈ tables_1_9) : w ∈ lw_tbl := List.mem_append_right _ (List.mem_append_right _ (List.mem_append_right _ (List.mem_append_right _ (List.mem_append_right _ (List.mem_append_right _ (List.mem_append_right _ (List.mem_append_right _ (List.mem_append_right _ (h)))))))))
set_option maxRecDepth 20000 in
theorem code_in_0 : codew 0 ∈ lw_tbl := in_t2 (List.mem_of_getElem? (i := 98) rfl)
set_option maxRecDepth 20000 in
theorem code_in_1 : codew 1 ∈ lw_tbl := in_t5 (List.mem_of_getElem? (i := 56) rfl)
set_option maxRecDepth 20000 in
theorem code_in_2 : codew 2 ∈ lw_tbl := in_t5 (List.mem_of_getElem? (i := 52) rfl)
set_option maxRecDepth 20000 in
theorem code_in_3 : codew 3 ∈ lw_tbl := in_t5 (List.mem_of_getElem? (i := 100) rfl)
set_option maxRecDepth 20000 in
theorem code_in_4 : codew 4 ∈ lw_tbl := in_t5 (List.mem_of_getElem? (i := 92) rfl)
set_option maxRecDepth 20000 in
theorem code_in_5 : codew 5 ∈ lw_tbl := in_t5 (List.mem_of_getElem? (i := 81) rfl)
set_option maxRecDepth 20000 in
theorem code_in_6 : codew 6 ∈ lw_tbl := in_t5 (List.mem_of_getElem? (i := 171) rfl)
set_option maxRecDepth 20000 in
theorem code_in_7 : codew 7 ∈ lw_tbl := in_t6 (List.mem_of_getElem? (i := 105) rfl)
set_option maxRecDepth 20000 in
theorem code_in_8 : codew 8 ∈ lw_tbl := in_t6 (List.mem_of_getElem? (i := 110) rfl)
set_option maxRecDepth 20000 in
theorem code_in_9 : codew 9 ∈ lw_tbl := in_t1 (List.mem_of_getElem? (i := 31) rfl)
set_option maxRecDepth 20000 in
theorem code_in_10 : codew 10 ∈ lw_tbl := in_t4 (List.mem_of_getElem? (i := 15) rfl)
set_option maxRecDepth 20000 in
theorem code_in_11 : codew 11 ∈ lw_tbl := in_t4 (List.mem_of_getElem? (i := 214) rfl)
set_option maxRecDepth 20000 in
theorem code_in_12 : codew 12 ∈ lw_tbl := in_t4 (List.mem_of_getElem? (i := 19) rfl)
set_option maxRecDepth 20000 in
theorem code_in_13 : codew 13 ∈ lw_tbl := in_t3 (List.mem_of_getElem? (i := 239) rfl)
set_option maxRecDepth 20000 in
theorem code_in_14 : codew 14 ∈ lw_tbl := in_t4 (List.mem_of_getElem? (i := 106) rfl)
set_option maxRecDepth 20000 in
theorem code_in_15 : codew 15 ∈ lw_tbl := in_t3 (List.mem_of_getElem? (i := 227) rfl)
set_option maxRecDepth 20000 in
theorem code_in_16 : codew 16 ∈ lw_tbl := in_t6 (List.mem_of_getElem? (i := 176) rfl)
set_option maxRecDepth 20000 in
theorem code_in_17 : codew 17 ∈ lw_tbl := in_t2 (List.mem_of_getElem? (i := 57) rfl)
set_option maxRecDepth 20000 in
theorem code_in_18 : codew 18 ∈ lw_tbl := in_t5 (List.mem_of_getElem? (i := 26) rfl)
set_option maxRecDepth 20000 in
theorem code_in_19 : codew 19 ∈ lw_tbl := in_t4 (List.mem_of_getElem? (i := 119) rfl)
set_option maxRecDepth 20000 in
theorem code_in_20 : codew 20 ∈ lw_tbl := in_t4 (List.mem_of_getElem? (i := 165) rfl)
set_option maxRecDepth 20000 in
theorem code_in_21 : codew 21 ∈ lw_tbl := in_t4 (List.mem_of_getElem? (i := 160) rfl)
set_option maxRecDepth 20000 in
theorem code_in_22 : codew 22 ∈ lw_tbl := in_t4 (List.mem_of_getElem? (i := 132) rfl)
set_option maxRecDepth 20000 in
theorem code_in_23 : codew 23 ∈ lw_tbl := in_t4 (List.mem_of_getElem? (i := 136) rfl)
set_option maxRecDepth 20000 in
theorem code_in_24 : codew 24 ∈ lw_tbl := in_t4 (List.mem_of_getElem? (i := 140) rfl)
set_option maxRecDepth 20000 in
theorem code_in_25 : codew 25 ∈ lw_tbl := in_t1 (List.mem_of_getElem? (i := 134) rfl)
set_option maxRecDepth 20000 in
theorem code_in_26 : codew 26 ∈ lw_tbl := in_t5 (List.mem_of_getElem? (i := 39) rfl)
set_option maxRecDepth 20000 in
theorem code_in_27 : codew 27 ∈ lw_tbl := in_t5 (List.mem_of_getElem? (i := 43) rfl)
set_option maxRecDepth 20000 in
theorem code_in_28 : codew 28 ∈ lw_tbl := in_t5 (List.mem_of_getElem? (i := 61) rfl)
set_option maxRecDepth 20000 in
theorem code_in_29 : codew 29 ∈ lw_tbl := in_t5 (List.mem_of_getElem? (i := 65) rfl)
set_option maxRecDepth 20000 in
theorem code_in_30 : codew 30 ∈ lw_tbl := in_t5 (List.mem_of_getElem? (i := 70) rfl)
set_option maxRecDepth 20000 in
theorem code_in_31 : codew 31 ∈ lw_tbl := in_t6 (List.mem_of_getElem? (i := 185) rfl)
set_option maxRecDepth 20000 in
theorem code_in_32 : codew 32 ∈ lw_tbl := in_t2 (List.mem_of_getElem? (i := 117) rfl)
set_option maxRecDepth 20000 in
theorem code_in_33 : codew 33 ∈ lw_tbl := in_t5 (List.mem_of_getElem? (i := 147) rfl)
set_option maxRecDepth 20000 in
theorem code_in_34 : codew 34 ∈ lw_tbl := in_t5 (List.mem_of_getElem? (i := 156) rfl)
set_option maxRecDepth 20000 in
theorem code_in_35 : codew 35 ∈ lw_tbl := in_t5 (List.mem_of_getElem? (i := 188) rfl)
set_option maxRecDepth 20000 in
theorem code_in_36 : codew 36 ∈ lw_tbl := in_t5 (List.mem_of_getElem? (i := 194) rfl)
set_option maxRecDepth 20000 in
theorem code_in_37 : codew 37 ∈ lw_tbl := in_t5 (List.mem_of_getElem? (i := 204) rfl)
set_option maxRecDepth 20000 in
theorem code_in_38 : codew 38 ∈ lw_tbl := in_t5 (List.mem_of_getElem? (i := 215) rfl)
set_option maxRecDepth 20000 in
theorem code_in_39 : codew 39 ∈ lw_tbl := in_t5 (List.mem_of_getElem? (i := 236) rfl)
set_option maxRecDepth 20000 in
theorem code_in_40 : codew 40 ∈ lw_tbl := in_t6 (List.mem_of_getElem? (i := 93) rfl)
set_option maxRecDepth 20000 in
theorem code_in_41 : codew 41 ∈ lw_tbl := in_t2 (List.mem_of_getElem? (i := 73) rfl)
set_option maxRecDepth 20000 in
theorem code_in_42 : codew 42 ∈ lw_tbl := in_t4 (List.mem_of_getElem? (i := 7) rfl)
set_option maxRecDepth 20000 in
theorem code_in_43 : codew 43 ∈ lw_tbl := in_t4 (List.mem_of_getElem? (i := 41) rfl)
set_option maxRecDepth 20000 in
theorem code_in_44 : codew 44 ∈ lw_tbl := in_t4 (List.mem_of_getElem? (i := 65) rfl)
set_option maxRecDepth 20000 in
theorem code_in_45 : codew 45 ∈ lw_tbl := in_t4 (List.mem_of_getElem? (i := 81) rfl)
set_option maxRecDepth 20000 in
theorem code_in_46 : codew 46 ∈ lw_tbl := in_t4 (List.mem_of_getElem? (i := 90) rfl)
set_option maxRecDepth 20000 in
theorem code_in_47 : codew 47 ∈ lw_tbl := in_t4 (List.mem_of_getElem? (i := 94) rfl)
set_option maxRecDepth 20000 in
theorem code_in_48 : codew 48 ∈ lw_tbl := in_t4 (List.mem_of_getElem? (i := 102) rfl)
set_option maxRecDepth 20000 in
theorem code_in_49 : codew 49 ∈ lw_tbl := in_t4 (List.mem_of_getElem? (i := 183) rfl)
set_option maxRecDepth 20000 in
theorem code_in_50 : codew 50 ∈ lw_tbl := in_t4 (List.mem_of_getElem? (i := 198) rfl)
set_option maxRecDepth 20000 in
theorem code_in_51 : codew 51 ∈ lw_tbl := in_t4 (List.mem_of_getElem? (i := 202) rfl)
set_option maxRecDepth 20000 in
theorem code_in_52 : codew 52 ∈ lw_tbl := in_t4 (List.mem_of_getElem? (i := 206) rfl)
set_option maxRecDepth 20000 in
theorem code_in_53 : codew 53 ∈ lw_tbl := in_t5 (List.mem_of_getElem? (i := 108) rfl)
set_option maxRecDepth 20000 in
theorem code_in_54 : codew 54 ∈ lw_tbl := in_t5 (List.mem_of_getElem? (i := 118) rfl)
set_option maxRecDepth 20000 in
theorem code_in_55 : codew 55 ∈ lw_tbl := in_t5 (List.mem_of_getElem? (i := 126) rfl)
set_option maxRecDepth 20000 in
theorem code_in_56 : codew 56 ∈ lw_tbl := in_t5 (List.mem_of_getElem? (i := 113) rfl)
set_option maxRecDepth 20000 in
theorem code_in_57 : codew 57 ∈ lw_tbl := in_t5 (List.mem_of_getElem? (i := 134) rfl)
set_option maxRecDepth 20000 in
theorem code_in_58 : codew 58 ∈ lw_tbl := in_t2 (List.mem_of_getElem? (i := 0) rfl)
set_option maxRecDepth 20000 in
theorem code_in_59 : codew 59 ∈ lw_tbl := in_t3 (List.mem_of_getElem? (i := 3) rfl)
set_option maxRecDepth 20000 in
theorem code_in_60 : codew 60 ∈ lw_tbl := in_t3 (List.mem_of_getElem? (i := 7) rfl)
set_option maxRecDepth 20000 in
theorem code_in_61 : codew 61 ∈ lw_tbl := in_t3 (List.mem_of_getElem? (i := 177) rfl)
set_option maxRecDepth 20000 in
theorem code_in_62 : codew 62 ∈ lw_tbl := in_t3 (List.mem_of_getElem? (i := 129) rfl)
set_option maxRecDepth 20000 in
theorem code_in_63 : codew 63 ∈ lw_tbl := in_t3 (List.mem_of_getElem? (i := 137) rfl)
set_option maxRecDepth 20000 in
theorem code_in_64 : codew 64 ∈ lw_tbl := in_t3 (List.mem_of_getElem? (i := 133) rfl)
set_option maxRecDepth 20000 in
theorem code_in_65 : codew 65 ∈ lw_tbl := in_t3 (List.mem_of_getElem? (i := 169) rfl)
set_option maxRecDepth 20000 in
theorem code_in_66 : codew 66 ∈ lw_tbl := in_t3 (List.mem_of_getElem? (i := 173) rfl)
set_option maxRecDepth 20000 in
theorem code_in_67 : codew 67 ∈ lw_tbl := in_t3 (List.mem_of_getElem? (i := 149) rfl)
set_option maxRecDepth 20000 in
theorem code_in_68 : codew 68 ∈ lw_tbl := in_t3 (List.mem_of_getElem? (i := 165) rfl)
set_option maxRecDepth 20000 in
theorem code_in_69 : codew 69 ∈ lw_tbl := in_t3 (List.mem_of_getElem? (i := 141) rfl)
set_option maxRecDepth 20000 in
theorem code_in_70 : codew 70 ∈ lw_tbl := in_t3 (List.mem_of_getElem? (i := 145) rfl)
set_option maxRecDepth 20000 in
theorem code_in_71 : codew 71 ∈ lw_tbl := in_t3 (List.mem_of_getElem? (i := 157) rfl)
set_option maxRecDepth 20000 in
theorem code_in_72 : codew 72 ∈ lw_tbl := in_t3 (List.mem_of_getElem? (i := 161) rfl)
set_option maxRecDepth 20000 in
theorem code_in_73 : codew 73 ∈ lw_tbl := in_t3 (List.mem_of_getElem? (i := 153) rfl)
set_option maxRecDepth 20000 in
theorem code_in_74 : codew 74 ∈ lw_tbl := in_t1 (List.mem_of_getElem? (i := 37) rfl)
set_option maxRecDepth 20000 in
theorem code_in_75 : codew 75 ∈ lw_tbl := in_t2 (List.mem_of_getElem? (i := 207) rfl)
set_option maxRecDepth 20000 in
theorem code_in_76 : codew 76 ∈ lw_tbl := in_t2 (List.mem_of_getElem? (i := 219) rfl)
set_option maxRecDepth 20000 in
theorem code_in_77 : codew 77 ∈ lw_tbl := in_t4 (List.mem_of_getElem? (i := 69) rfl)
set_option maxRecDepth 20000 in
theorem code_in_78 : codew 78 ∈ lw_tbl := in_t4 (List.mem_of_getElem? (i := 11) rfl)
set_option maxRecDepth 20000 in
theorem code_in_79 : codew 79 ∈ lw_tbl := in_t4 (List.mem_of_getElem? (i := 123) rfl)
set_option maxRecDepth 20000 in
theorem code_in_80 : codew 80 ∈ lw_tbl := in_t4 (List.mem_of_getElem? (i := 115) rfl)
set_option maxRecDepth 20000 in
theorem code_in_81 : codew 81 ∈ lw_tbl := in_t4 (List.mem_of_getElem? (i := 111) rfl)
set_option maxRecDepth 20000 in
theorem code_in_82 : codew 82 ∈ lw_tbl := in_t4 (List.mem_of_getElem? (i := 50) rfl)
set_option maxRecDepth 20000 in
theorem code_in_83 : codew 83 ∈ lw_tbl := in_t4 (List.mem_of_getElem? (i := 57) rfl)
set_option maxRecDepth 20000 in
theorem code_in_84 : codew 84 ∈ lw_tbl := in_t4 (List.mem_of_getElem? (i := 45) rfl)
set_option maxRecDepth 20000 in
theorem code_in_85 : codew 85 ∈ lw_tbl := in_t4 (List.mem_of_getElem? (i := 98) rfl)
set_option maxRecDepth 20000 in
theorem code_in_86 : codew 86 ∈ lw_tbl := in_t2 (List.mem_of_getElem? (i := 211) rfl)
set_option maxRecDepth 20000 in
theorem code_in_87 : codew 87 ∈ lw_tbl := in_t4 (List.mem_of_getElem? (i := 30) rfl)
set_option maxRecDepth 20000 in
theorem code_in_88 : codew 88 ∈ lw_tbl := in_t4 (List.mem_of_getElem? (i := 73) rfl)
set_option maxRecDepth 20000 in
theorem code_in_89 : codew 89 ∈ lw_tbl := in_t5 (List.mem_of_getElem? (i := 223) rfl)
set_option maxRecDepth 20000 in
theorem code_in_90 : codew 90 ∈ lw_tbl := in_t6 (List.mem_of_getElem? (i := 151) rfl)
set_option maxRecDepth 20000 in
theorem code_in_91 : codew 91 ∈ lw_tbl := in_t6 (List.mem_of_getElem? (i := 138) rfl)
set_option maxRecDepth 20000 in
theorem code_in_92 : codew 92 ∈ lw_tbl := in_t6 (List.mem_of_getElem? (i := 142) rfl)
set_option maxRecDepth 20000 in
theorem code_in_93 : codew 93 ∈ lw_tbl := in_t6 (List.mem_of_getElem? (i := 159) rfl)
set_option maxRecDepth 20000 in
theorem code_in_94 : codew 94 ∈ lw_tbl := in_t4 (List.mem_of_getElem? (i := 151) rfl)
set_option maxRecDepth 20000 in
theorem code_in_95 : codew 95 ∈ lw_tbl := in_t4 (List.mem_of_getElem? (i := 171) rfl)
set_option maxRecDepth 20000 in
theorem code_in_96 : codew 96 ∈ lw_tbl := in_t4 (List.mem_of_getElem? (i := 155) rfl)
set_option maxRecDepth 20000 in
theorem code_in_97 : codew 97 ∈ lw_tbl := in_t5 (List.mem_of_getElem? (i := 9) rfl)
set_option maxRecDepth 20000 in
theorem code_in_98 : codew 98 ∈ lw_tbl := in_t5 (List.mem_of_getElem? (i := 5) rfl)
set_option maxRecDepth 20000 in
theorem code_in_99 : codew 99 ∈ lw_tbl := in_t5 (List.mem_of_getElem? (i := 13) rfl)
set_option maxRecDepth 20000 in
theorem code_in_100 : codew 100 ∈ lw_tbl := in_t5 (List.mem_of_getElem? (i := 17) rfl)
set_option maxRecDepth 20000 in
theorem code_in_101 : codew 101 ∈ lw_tbl := in_t6 (List.mem_of_getElem? (i := 119) rfl)
set_option maxRecDepth 20000 in
theorem code_in_102 : codew 102 ∈ lw_tbl := in_t6 (List.mem_of_getElem? (i := 168) rfl)
set_option maxRecDepth 20000 in
theorem code_in_103 : codew 103 ∈ lw_tbl := in_t6 (List.mem_of_getElem? (i := 129) rfl)
set_option maxRecDepth 20000 in
theorem code_in_104 : codew 104 ∈ lw_tbl := in_t4 (List.mem_of_getElem? (i := 26) rfl)
set_option maxRecDepth 20000 in
theorem code_in_105 : codew 105 ∈ lw_tbl := in_t4 (List.mem_of_getElem? (i := 218) rfl)
set_option maxRecDepth 20000 in
theorem code_in_106 : codew 106 ∈ lw_tbl := in_t6 (List.mem_of_getElem? (i := 180) rfl)
set_option maxRecDepth 20000 in
theorem code_in_107 : codew 107 ∈ lw_tbl := in_t1 (List.mem_of_getElem? (i := 207) rfl)
set_option maxRecDepth 20000 in
theorem code_in_108 : codew 108 ∈ lw_tbl := in_t2 (List.mem_of_getElem? (i := 227) rfl)
set_option maxRecDepth 20000 in
theorem code_in_109 : codew 109 ∈ lw_tbl := in_t2 (List.mem_of_getElem? (i := 231) rfl)
set_option maxRecDepth 20000 in
theorem code_in_110 : codew 110 ∈ lw_tbl := in_t3 (List.mem_of_getElem? (i := 11) rfl)
set_option maxRecDepth 20000 in
theorem code_in_111 : codew 111 ∈ lw_tbl := in_t3 (List.mem_of_getElem? (i := 15) rfl)
set_option maxRecDepth 20000 in
theorem code_in_112 : codew 112 ∈ lw_tbl := in_t3 (List.mem_of_getElem? (i := 28) rfl)
set_option maxRecDepth 20000 in
theorem code_in_113 : codew 113 ∈ lw_tbl := in_t3 (List.mem_of_getElem? (i := 32) rfl)
set_option maxRecDepth 20000 in
theorem code_in_114 : codew 114 ∈ lw_tbl := in_t3 (List.mem_of_getElem? (i := 36) rfl)
set_option maxRecDepth 20000 in
theorem code_in_115 : codew 115 ∈ lw_tbl := in_t3 (List.mem_of_getElem? (i := 43) rfl)
set_option maxRecDepth 20000 in
theorem code_in_116 : codew 116 ∈ lw_tbl := in_t3 (List.mem_of_getElem? (i := 74) rfl)
set_option maxRecDepth 20000 in
theorem code_in_117 : codew 117 ∈ lw_tbl := in_t3 (List.mem_of_getElem? (i := 24) rfl)
set_option maxRecDepth 20000 in
theorem code_in_118 : codew 118 ∈ lw_tbl := in_t3 (List.mem_of_getElem? (i := 18) rfl)
set_option maxRecDepth 20000 in
theorem code_in_119 : codew 119 ∈ lw_tbl := in_t3 (List.mem_of_getElem? (i := 21) rfl)
set_option maxRecDepth 20000 in
theorem code_in_120 : codew 120 ∈ lw_tbl := in_t3 (List.mem_of_getElem? (i := 125) rfl)
set_option maxRecDepth 20000 in
theorem code_in_121 : codew 121 ∈ lw_tbl := in_t3 (List.mem_of_getElem? (i := 46) rfl)
set_option maxRecDepth 20000 in
theorem code_in_122 : codew 122 ∈ lw_tbl := in_t3 (List.mem_of_getElem? (i := 182) rfl)
set_option maxRecDepth 20000 in
theorem code_in_123 : codew 123 ∈ lw_tbl := in_t4 (List.mem_of_getElem? (i := 128) rfl)
set_option maxRecDepth 20000 in
theorem code_in_124 : codew 124 ∈ lw_tbl := in_t2 (List.mem_of_getElem? (i := 148) rfl)
set_option maxRecDepth 20000 in
theorem code_in_125 : codew 125 ∈ lw_tbl := in_t6 (List.mem_of_getElem? (i := 14) rfl)
set_option maxRecDepth 20000 in
theorem code_in_126 : codew 126 ∈ lw_tbl := in_t6 (List.mem_of_getElem? (i := 7) rfl)
set_option maxRecDepth 20000 in
theorem code_in_127 : codew 127 ∈ lw_tbl := in_t6 (List.mem_of_getElem? (i := 11) rfl)
set_option maxRecDepth 20000 in
theorem code_in_128 : codew 128 ∈ lw_tbl := in_t6 (List.mem_of_getElem? (i := 47) rfl)
set_option maxRecDepth 20000 in
theorem code_in_129 : codew 129 ∈ lw_tbl := in_t6 (List.mem_of_getElem? (i := 43) rfl)
set_option maxRecDepth 20000 in
theorem code_in_130 : codew 130 ∈ lw_tbl := in_t6 (List.mem_of_getElem? (i := 55) rfl)
set_option maxRecDepth 20000 in
theorem code_in_131 : codew 131 ∈ lw_tbl := in_t6 (List.mem_of_getElem? (i := 34) rfl)
set_option maxRecDepth 20000 in
theorem code_in_132 : codew 132 ∈ lw_tbl := in_t6 (List.mem_of_getElem? (i := 23) rfl)
set_option maxRecDepth 20000 in
theorem code_in_133 : codew 133 ∈ lw_tbl := in_t6 (List.mem_of_getElem? (i := 28) rfl)
set_option maxRecDepth 20000 in
theorem code_in_134 : codew 134 ∈ lw_tbl := in_t6 (List.mem_of_getElem? (i := 73) rfl)
set_option maxRecDepth 20000 in
theorem code_in_135 : codew 135 ∈ lw_tbl := in_t6 (List.mem_of_getElem? (i := 78) rfl)
set_option maxRecDepth 20000 in
theorem code_in_136 : codew 136 ∈ lw_tbl := in_t6 (List.mem_of_getElem? (i := 85) rfl)
set_option maxRecDepth 20000 in
theorem code_in_137 : codew 137 ∈ lw_tbl := in_t1 (List.mem_of_getElem? (i := 23) rfl)
set_option maxRecDepth 20000 in
theorem code_in_138 : codew 138 ∈ lw_tbl := in_t2 (List.mem_of_getElem? (i := 203) rfl)
set_option maxRecDepth 20000 in
theorem code_in_139 : codew 139 ∈ lw_tbl := in_t2 (List.mem_of_getElem? (i := 215) rfl)
set_option maxRecDepth 20000 in
theorem code_in_140 : codew 140 ∈ lw_tbl := in_t2 (List.mem_of_getElem? (i := 223) rfl)
set_option maxRecDepth 20000 in
theorem code_in_141 : codew 141 ∈ lw_tbl := in_t2 (List.mem_of_getElem? (i := 235) rfl)
set_option maxRecDepth 20000 in
theorem code_in_142 : codew 142 ∈ lw_tbl := in_t2 (List.mem_of_getElem? (i := 239) rfl)
set_option maxRecDepth 20000 in
theorem code_in_143 : codew 143 ∈ lw_tbl := in_t3 (List.mem_of_getElem? (i := 231) rfl)
set_option maxRecDepth 20000 in
theorem code_in_144 : codew 144 ∈ lw_tbl := in_t3 (List.mem_of_getElem? (i := 235) rfl)
set_option maxRecDepth 20000 in
theorem code_in_145 : codew 145 ∈ lw_tbl := in_t4 (List.mem_of_getElem? (i := 3) rfl)
set_option maxRecDepth 20000 in
theorem code_in_146 : codew 146 ∈ lw_tbl := in_t4 (List.mem_of_getElem? (i := 37) rfl)
set_option maxRecDepth 20000 in
theorem code_in_147 : codew 147 ∈ lw_tbl := in_t4 (List.mem_of_getElem? (i := 61) rfl)
set_option maxRecDepth 20000 in
theorem code_in_148 : codew 148 ∈ lw_tbl := in_t4 (List.mem_of_getElem? (i := 77) rfl)
set_option maxRecDepth 20000 in
theorem code_in_149 : codew 149 ∈ lw_tbl := in_t4 (List.mem_of_getElem? (i := 86) rfl)
set_option maxRecDepth 20000 in
theorem code_in_150 : codew 150 ∈ lw_tbl := in_t4 (List.mem_of_getElem? (i := 178) rfl)
set_option maxRecDepth 20000 in
theorem code_in_151 : codew 151 ∈ lw_tbl := in_t4 (List.mem_of_getElem? (i := 194) rfl)
set_option maxRecDepth 20000 in
theorem code_in_152 : codew 152 ∈ lw_tbl := in_t4 (List.mem_of_getElem? (i := 210) rfl)
set_option maxRecDepth 20000 in
theorem code_in_153 : codew 153 ∈ lw_tbl := in_t4 (List.mem_of_getElem? (i := 222) rfl)
set_option maxRecDepth 20000 in
theorem code_in_154 : codew 154 ∈ lw_tbl := in_t4 (List.mem_of_getElem? (i := 230) rfl)
set_option maxRecDepth 20000 in
theorem code_in_155 : codew 155 ∈ lw_tbl := in_t4 (List.mem_of_getElem? (i := 237) rfl)
set_option maxRecDepth 20000 in
theorem code_in_156 : codew 156 ∈ lw_tbl := in_t5 (List.mem_of_getElem? (i := 1) rfl)
set_option maxRecDepth 20000 in
theorem code_in_157 : codew 157 ∈ lw_tbl := in_t5 (List.mem_of_getElem? (i := 21) rfl)
set_option maxRecDepth 20000 in
theorem code_in_158 : codew 158 ∈ lw_tbl := in_t5 (List.mem_of_getElem? (i := 31) rfl)
set_option maxRecDepth 20000 in
theorem code_in_159 : codew 159 ∈ lw_tbl := in_t5 (List.mem_of_getElem? (i := 35) rfl)
set_option maxRecDepth 20000 in
theorem code_in_160 : codew 160 ∈ lw_tbl := in_t5 (List.mem_of_getElem? (i := 47) rfl)
set_option maxRecDepth 20000 in
theorem code_in_161 : codew 161 ∈ lw_tbl := in_t5 (List.mem_of_getElem? (i := 77) rfl)
set_option maxRecDepth 20000 in
theorem code_in_162 : codew 162 ∈ lw_tbl := in_t5 (List.mem_of_getElem? (i := 88) rfl)
set_option maxRecDepth 20000 in
theorem code_in_163 : codew 163 ∈ lw_tbl := in_t5 (List.mem_of_getElem? (i := 96) rfl)
set_option maxRecDepth 20000 in
theorem code_in_164 : codew 164 ∈ lw_tbl := in_t5 (List.mem_of_getElem? (i := 104) rfl)
set_option maxRecDepth 20000 in
theorem code_in_165 : codew 165 ∈ lw_tbl := in_t5 (List.mem_of_getElem? (i := 122) rfl)
set_option maxRecDepth 20000 in
theorem code_in_166 : codew 166 ∈ lw_tbl := in_t5 (List.mem_of_getElem? (i := 130) rfl)
set_option maxRecDepth 20000 in
theorem code_in_167 : codew 167 ∈ lw_tbl := in_t5 (List.mem_of_getElem? (i := 139) rfl)
set_option maxRecDepth 20000 in
theorem code_in_168 : codew 168 ∈ lw_tbl := in_t5 (List.mem_of_getElem? (i := 167) rfl)
set_option maxRecDepth 20000 in
theorem code_in_169 : codew 169 ∈ lw_tbl := in_t5 (List.mem_of_getElem? (i := 180) rfl)
set_option maxRecDepth 20000 in
theorem code_in_170 : codew 170 ∈ lw_tbl := in_t5 (List.mem_of_getElem? (i := 184) rfl)
set_option maxRecDepth 20000 in
theorem code_in_171 : codew 171 ∈ lw_tbl := in_t5 (List.mem_of_getElem? (i := 200) rfl)
set_option maxRecDepth 20000 in
theorem code_in_172 : codew 172 ∈ lw_tbl := in_t5 (List.mem_of_getElem? (i := 211) rfl)
set_option maxRecDepth 20000 in
theorem code_in_173 : codew 173 ∈ lw_tbl := in_t5 (List.mem_of_getElem? (i := 219) rfl)
set_option maxRecDepth 20000 in
theorem code_in_174 : codew 174 ∈ lw_tbl := in_t5 (List.mem_of_getElem? (i := 228) rfl)
set_option maxRecDepth 20000 in
theorem code_in_175 : codew 175 ∈ lw_tbl := in_t5 (List.mem_of_getElem? (i := 232) rfl)
set_option maxRecDepth 20000 in
theorem code_in_176 : codew 176 ∈ lw_tbl := in_t6 (List.mem_of_getElem? (i := 3) rfl)
set_option maxRecDepth 20000 in
theorem code_in_177 : codew 177 ∈ lw_tbl := in_t6 (List.mem_of_getElem? (i := 19) rfl)
set_option maxRecDepth 20000 in
theorem code_in_178 : codew 178 ∈ lw_tbl := in_t6 (List.mem_of_getElem? (i := 39) rfl)
set_option maxRecDepth 20000 in
theorem code_in_179 : codew 179 ∈ lw_tbl := in_t6 (List.mem_of_getElem? (i := 51) rfl)
set_option maxRecDepth 20000 in
theorem code_in_180 : codew 180 ∈ lw_tbl := in_t6 (List.mem_of_getElem? (i := 60) rfl)
set_option maxRecDepth 20000 in
theorem code_in_181 : codew 181 ∈ lw_tbl := in_t6 (List.mem_of_getElem? (i := 65) rfl)
set_option maxRecDepth 20000 in
theorem code_in_182 : codew 182 ∈ lw_tbl := in_t6 (List.mem_of_getElem? (i := 69) rfl)
set_option maxRecDepth 20000 in
theorem code_in_183 : codew 183 ∈ lw_tbl := in_t6 (List.mem_of_getElem? (i := 89) rfl)
set_option maxRecDepth 20000 in
theorem code_in_184 : codew 184 ∈ lw_tbl := in_t6 (List.mem_of_getElem? (i := 97) rfl)
set_option maxRecDepth 20000 in
theorem code_in_185 : codew 185 ∈ lw_tbl := in_t6 (List.mem_of_getElem? (i := 101) rfl)
set_option maxRecDepth 20000 in
theorem code_in_186 : codew 186 ∈ lw_tbl := in_t6 (List.mem_of_getElem? (i := 115) rfl)
set_option maxRecDepth 20000 in
theorem code_in_187 : codew 187 ∈ lw_tbl := in_t6 (List.mem_of_getElem? (i := 125) rfl)
set_option maxRecDepth 20000 in
theorem code_in_188 : codew 188 ∈ lw_tbl := in_t6 (List.mem_of_getElem? (i := 134) rfl)
set_option maxRecDepth 20000 in
theorem code_in_189 : codew 189 ∈ lw_tbl := in_t6 (List.mem_of_getElem? (i := 147) rfl)
set_option maxRecDepth 20000 in
theorem code_in_190 : codew 190 ∈ lw_tbl := in_t6 (List.mem_of_getElem? (i := 155) rfl)
set_option maxRecDepth 20000 in
theorem code_in_191 : codew 191 ∈ lw_tbl := in_t6 (List.mem_of_getElem? (i := 164) rfl)
set_option maxRecDepth 20000 in
theorem code_in_192 : codew 192 ∈ lw_tbl := in_t6 (List.mem_of_getElem? (i := 172) rfl)
set_option maxRecDepth 20000 in
theorem code_in_193 : codew 193 ∈ lw_tbl := in_t6 (List.mem_of_getElem? (i := 191) rfl)
set_option maxRecDepth 20000 in
theorem code_in_194 : codew 194 ∈ lw_tbl := in_t6 (List.mem_of_getElem? (i := 195) rfl)
set_option maxRecDepth 20000 in
theorem code_in_195 : codew 195 ∈ lw_tbl := in_t4 (List.mem_of_getElem? (i := 53) rfl)
set_option maxRecDepth 20000 in
theorem code_in_196 : codew 196 ∈ lw_tbl := in_t4 (List.mem_of_getElem? (i := 33) rfl)
set_option maxRecDepth 20000 in
theorem code_in_197 : codew 197 ∈ lw_tbl := in_t5 (List.mem_of_getElem? (i := 142) rfl)
set_option maxRecDepth 20000 in
theorem code_in_198 : codew 198 ∈ lw_tbl := in_t5 (List.mem_of_getElem? (i := 150) rfl)
set_option maxRecDepth 20000 in
theorem code_in_199 : codew 199 ∈ lw_tbl := in_t4 (List.mem_of_getElem? (i := 147) rfl)
set_option maxRecDepth 20000 in
theorem code_in_200 : codew 200 ∈ lw_tbl := in_t5 (List.mem_of_getElem? (i := 175) rfl)
set_option maxRecDepth 20000 in
theorem code_in_201 : codew 201 ∈ lw_tbl := in_t5 (List.mem_of_getElem? (i := 73) rfl)
set_option maxRecDepth 20000 in
theorem code_in_202 : codew 202 ∈ lw_tbl := in_t5 (List.mem_of_getElem? (i := 160) rfl)
set_option maxRecDepth 20000 in
theorem code_in_203 : codew 203 ∈ lw_tbl := in_t5 (List.mem_of_getElem? (i := 163) rfl)
set_option maxRecDepth 20000 in
theorem code_in_204 : codew 204 ∈ lw_tbl := in_t3 (List.mem_of_getElem? (i := 223) rfl)
set_option maxRecDepth 20000 in
theorem code_in_205 : codew 205 ∈ lw_tbl := in_t6 (List.mem_of_getElem? (i := 200) rfl)
set_option maxRecDepth 20000 in
theorem code_in_206 : codew 206 ∈ lw_tbl := in_t6 (List.mem_of_getElem? (i := 204) rfl)
set_option maxRecDepth 20000 in
theorem code_in_207 : codew 207 ∈ lw_tbl := in_t7 (List.mem_of_getElem? (i := 69) rfl)
set_option maxRecDepth 20000 in
theorem code_in_208 : codew 208 ∈ lw_tbl := in_t8 (List.mem_of_getElem? (i := 61) rfl)
set_option maxRecDepth 20000 in
theorem code_in_209 : codew 209 ∈ lw_tbl := in_t7 (List.mem_of_getElem? (i := 162) rfl)
set_option maxRecDepth 20000 in
theorem code_in_210 : codew 210 ∈ lw_tbl := in_t8 (List.mem_of_getElem? (i := 198) rfl)
set_option maxRecDepth 20000 in
theorem code_in_211 : codew 211 ∈ lw_tbl := in_t8 (List.mem_of_getElem? (i := 224) rfl)
set_option maxRecDepth 20000 in
theorem code_in_212 : codew 212 ∈ lw_tbl := in_t8 (List.mem_of_getElem? (i := 30) rfl)
set_option maxRecDepth 20000 in
theorem code_in_213 : codew 213 ∈ lw_tbl := in_t8 (List.mem_of_getElem? (i := 2) rfl)
set_option maxRecDepth 20000 in
theorem code_in_214 : codew 214 ∈ lw_tbl := in_t7 (List.mem_of_getElem? (i := 77) rfl)
set_option maxRecDepth 20000 in
theorem code_in_215 : codew 215 ∈ lw_tbl := in_t7 (List.mem_of_getElem? (i := 81) rfl)
set_option maxRecDepth 20000 in
theorem code_in_216 : codew 216 ∈ lw_tbl := in_t8 (List.mem_of_getElem? (i := 10) rfl)
set_option maxRecDepth 20000 in
theorem code_in_217 : codew 217 ∈ lw_tbl := in_t7 (List.mem_of_getElem? (i := 89) rfl)
set_option maxRecDepth 20000 in
theorem code_in_218 : codew 218 ∈ lw_tbl := in_t7 (List.mem_of_getElem? (i := 73) rfl)
set_option maxRecDepth 20000 in
theorem code_in_219 : codew 219 ∈ lw_tbl := in_t7 (List.mem_of_getElem? (i := 66) rfl)
set_option maxRecDepth 20000 in
theorem code_in_220 : codew 220 ∈ lw_tbl := in_t7 (List.mem_of_getElem? (i := 85) rfl)
set_option maxRecDepth 20000 in
theorem code_in_221 : codew 221 ∈ lw_tbl := in_t7 (List.mem_of_getElem? (i := 97) rfl)
set_option maxRecDepth 20000 in
theorem code_in_222 : codew 222 ∈ lw_tbl := in_t7 (List.mem_of_getElem? (i := 93) rfl)
set_option maxRecDepth 20000 in
theorem code_in_223 : codew 223 ∈ lw_tbl := in_t7 (List.mem_of_getElem? (i := 101) rfl)
set_option maxRecDepth 20000 in
theorem code_in_224 : codew 224 ∈ lw_tbl := in_t7 (List.mem_of_getElem? (i := 117) rfl)
set_option maxRecDepth 20000 in
theorem code_in_225 : codew 225 ∈ lw_tbl := in_t7 (List.mem_of_getElem? (i := 124) rfl)
set_option maxRecDepth 20000 in
theorem code_in_226 : codew 226 ∈ lw_tbl := in_t7 (List.mem_of_getElem? (i := 120) rfl)
set_option maxRecDepth 20000 in
theorem code_in_227 : codew 227 ∈ lw_tbl := in_t7 (List.mem_of_getElem? (i := 128) rfl)
set_option maxRecDepth 20000 in
theorem code_in_228 : codew 228 ∈ lw_tbl := in_t7 (List.mem_of_getElem? (i := 113) rfl)
set_option maxRecDepth 20000 in
theorem code_in_229 : codew 229 ∈ lw_tbl := in_t7 (List.mem_of_getElem? (i := 148) rfl)
set_option maxRecDepth 20000 in
theorem code_in_230 : codew 230 ∈ lw_tbl := in_t7 (List.mem_of_getElem? (i := 145) rfl)
set_option maxRecDepth 20000 in
theorem code_in_231 : codew 231 ∈ lw_tbl := in_t7 (List.mem_of_getElem? (i := 142) rfl)
set_option maxRecDepth 20000 in
theorem code_in_232 : codew 232 ∈ lw_tbl := in_t7 (List.mem_of_getElem? (i := 139) rfl)
set_option maxRecDepth 20000 in
theorem code_in_233 : codew 233 ∈ lw_tbl := in_t7 (List.mem_of_getElem? (i := 159) rfl)
set_option maxRecDepth 20000 in
theorem code_in_234 : codew 234 ∈ lw_tbl := in_t7 (List.mem_of_getElem? (i := 152) rfl)
set_option maxRecDepth 20000 in
theorem code_in_235 : codew 235 ∈ lw_tbl := in_t7 (List.mem_of_getElem? (i := 197) rfl)
set_option maxRecDepth 20000 in
theorem code_in_236 : codew 236 ∈ lw_tbl := in_t7 (List.mem_of_getElem? (i := 156) rfl)
set_option maxRecDepth 20000 in
theorem code_in_237 : codew 237 ∈ lw_tbl := in_t7 (List.mem_of_getElem? (i := 209) rfl)
set_option maxRecDepth 20000 in
theorem code_in_238 : codew 238 ∈ lw_tbl := in_t7 (List.mem_of_getElem? (i := 218) rfl)
set_option maxRecDepth 20000 in
theorem code_in_239 : codew 239 ∈ lw_tbl := in_t7 (List.mem_of_getElem? (i := 214) rfl)
set_option maxRecDepth 20000 in
theorem code_in_240 : codew 240 ∈ lw_tbl := in_t7 (List.mem_of_getElem? (i := 189) rfl)
set_option maxRecDepth 20000 in
theorem code_in_241 : codew 241 ∈ lw_tbl := in_t7 (List.mem_of_getElem? (i := 193) rfl)
set_option maxRecDepth 20000 in
theorem code_in_242 : codew 242 ∈ lw_tbl := in_t7 (List.mem_of_getElem? (i := 201) rfl)
set_option maxRecDepth 20000 in
theorem code_in_243 : codew 243 ∈ lw_tbl := in_t7 (List.mem_of_getElem? (i := 222) rfl)
set_option maxRecDepth 20000 in
theorem code_in_244 : codew 244 ∈ lw_tbl := in_t7 (List.mem_of_getElem? (i := 205) rfl)
set_option maxRecDepth 20000 in
theorem code_in_245 : codew 245 ∈ lw_tbl := in_t7 (List.mem_of_getElem? (i := 186) rfl)
set_option maxRecDepth 20000 in
theorem code_in_246 : codew 246 ∈ lw_tbl := in_t7 (List.mem_of_getElem? (i := 182) rfl)
set_option maxRecDepth 20000 in
theorem code_in_247 : codew 247 ∈ lw_tbl := in_t7 (List.mem_of_getElem? (i := 174) rfl)
set_option maxRecDepth 20000 in
theorem code_in_248 : codew 248 ∈ lw_tbl := in_t7 (List.mem_of_getElem? (i := 178) rfl)
set_option maxRecDepth 20000 in
theorem code_in_249 : codew 249 ∈ lw_tbl := in_t7 (List.mem_of_getElem? (i := 170) rfl)
set_option maxRecDepth 20000 in
theorem code_in_250 : codew 250 ∈ lw_tbl := in_t7 (List.mem_of_getElem? (i := 166) rfl)
set_option maxRecDepth 20000 in
theorem code_in_251 : codew 251 ∈ lw_tbl := in_t7 (List.mem_of_getElem? (i := 136) rfl)
set_option maxRecDepth 20000 in
theorem code_in_252 : codew 252 ∈ lw_tbl := in_t7 (List.mem_of_getElem? (i := 132) rfl)
set_option maxRecDepth 20000 in
theorem code_in_253 : codew 253 ∈ lw_tbl := in_t7 (List.mem_of_getElem? (i := 109) rfl)
set_option maxRecDepth 20000 in
theorem code_in_254 : codew 254 ∈ lw_tbl := in_t7 (List.mem_of_getElem? (i := 105) rfl)
set_option maxRecDepth 20000 in
theorem code_in_255 : codew 255 ∈ lw_tbl := in_t7 (List.mem_of_getElem? (i := 226) rfl)
set_option maxRecDepth 20000 in
theorem code_in_256 : codew 256 ∈ lw_tbl := in_t7 (List.mem_of_getElem? (i := 230) rfl)
set_option maxRecDepth 20000 in
theorem code_in_257 : codew 257 ∈ lw_tbl := in_t8 (List.mem_of_getElem? (i := 72) rfl)
set_option maxRecDepth 20000 in
theorem code_in_258 : codew 258 ∈ lw_tbl := in_t8 (List.mem_of_getElem? (i := 77) rfl)
set_option maxRecDepth 20000 in
theorem code_in_259 : codew 259 ∈ lw_tbl := in_t8 (List.mem_of_getElem? (i := 69) rfl)
set_option maxRecDepth 20000 in
theorem code_in_260 : codew 260 ∈ lw_tbl := in_t8 (List.mem_of_getElem? (i := 65) rfl)
set_option maxRecDepth 20000 in
theorem code_in_261 : codew 261 ∈ lw_tbl := in_t8 (List.mem_of_getElem? (i := 58) rfl)
set_option maxRecDepth 20000 in
theorem code_in_262 : codew 262 ∈ lw_tbl := in_t8 (List.mem_of_getElem? (i := 54) rfl)
set_option maxRecDepth 20000 in
theorem code_in_263 : codew 263 ∈ lw_tbl := in_t8 (List.mem_of_getElem? (i := 96) rfl)
set_option maxRecDepth 20000 in
theorem code_in_264 : codew 264 ∈ lw_tbl := in_t8 (List.mem_of_getElem? (i := 81) rfl)
set_option maxRecDepth 20000 in
theorem code_in_265 : codew 265 ∈ lw_tbl := in_t8 (List.mem_of_getElem? (i := 85) rfl)
set_option maxRecDepth 20000 in
theorem code_in_266 : codew 266 ∈ lw_tbl := in_t8 (List.mem_of_getElem? (i := 92) rfl)
set_option maxRecDepth 20000 in
theorem code_in_267 : codew 267 ∈ lw_tbl := in_t8 (List.mem_of_getElem? (i := 50) rfl)
set_option maxRecDepth 20000 in
theorem code_in_268 : codew 268 ∈ lw_tbl := in_t8 (List.mem_of_getElem? (i := 46) rfl)
set_option maxRecDepth 20000 in
theorem code_in_269 : codew 269 ∈ lw_tbl := in_t8 (List.mem_of_getElem? (i := 6) rfl)
set_option maxRecDepth 20000 in
theorem code_in_270 : codew 270 ∈ lw_tbl := in_t7 (List.mem_of_getElem? (i := 234) rfl)
set_option maxRecDepth 20000 in
theorem code_in_271 : codew 271 ∈ lw_tbl := in_t8 (List.mem_of_getElem? (i := 14) rfl)
set_option maxRecDepth 20000 in
theorem code_in_272 : codew 272 ∈ lw_tbl := in_t7 (List.mem_of_getElem? (i := 238) rfl)
set_option maxRecDepth 20000 in
theorem code_in_273 : codew 273 ∈ lw_tbl := in_t8 (List.mem_of_getElem? (i := 22) rfl)
set_option maxRecDepth 20000 in
theorem code_in_274 : codew 274 ∈ lw_tbl := in_t8 (List.mem_of_getElem? (i := 18) rfl)
set_option maxRecDepth 20000 in
theorem code_in_275 : codew 275 ∈ lw_tbl := in_t8 (List.mem_of_getElem? (i := 26) rfl)
set_option maxRecDepth 20000 in
theorem code_in_276 : codew 276 ∈ lw_tbl := in_t8 (List.mem_of_getElem? (i := 34) rfl)
set_option maxRecDepth 20000 in
theorem code_in_277 : codew 277 ∈ lw_tbl := in_t8 (List.mem_of_getElem? (i := 42) rfl)
set_option maxRecDepth 20000 in
theorem code_in_278 : codew 278 ∈ lw_tbl := in_t8 (List.mem_of_getElem? (i := 38) rfl)
set_option maxRecDepth 20000 in
theorem code_in_279 : codew 279 ∈ lw_tbl := in_t8 (List.mem_of_getElem? (i := 105) rfl)
set_option maxRecDepth 20000 in
theorem code_in_280 : codew 280 ∈ lw_tbl := in_t8 (List.mem_of_getElem? (i := 101) rfl)
set_option maxRecDepth 20000 in
theorem code_in_281 : codew 281 ∈ lw_tbl := in_t8 (List.mem_of_getElem? (i := 119) rfl)
set_option maxRecDepth 20000 in
theorem code_in_282 : codew 282 ∈ lw_tbl := in_t8 (List.mem_of_getElem? (i := 115) rfl)
set_option maxRecDepth 20000 in
theorem code_in_283 : codew 283 ∈ lw_tbl := in_t8 (List.mem_of_getElem? (i := 123) rfl)
set_option maxRecDepth 20000 in
theorem code_in_284 : codew 284 ∈ lw_tbl := in_t8 (List.mem_of_getElem? (i := 127) rfl)
set_option maxRecDepth 20000 in
theorem code_in_285 : codew 285 ∈ lw_tbl := in_t8 (List.mem_of_getElem? (i := 131) rfl)
set_option maxRecDepth 20000 in
theorem code_in_286 : codew 286 ∈ lw_tbl := in_t8 (List.mem_of_getElem? (i := 139) rfl)
set_option maxRecDepth 20000 in
theorem code_in_287 : codew 287 ∈ lw_tbl := in_t8 (List.mem_of_getElem? (i := 135) rfl)
set_option maxRecDepth 20000 in
theorem code_in_288 : codew 288 ∈ lw_tbl := in_t8 (List.mem_of_getElem? (i := 143) rfl)
set_option maxRecDepth 20000 in
theorem code_in_289 : codew 289 ∈ lw_tbl := in_t8 (List.mem_of_getElem? (i := 151) rfl)
set_option maxRecDepth 20000 in
theorem code_in_290 : codew 290 ∈ lw_tbl := in_t8 (List.mem_of_getElem? (i := 147) rfl)
set_option maxRecDepth 20000 in
theorem code_in_291 : codew 291 ∈ lw_tbl := in_t8 (List.mem_of_getElem? (i := 155) rfl)
set_option maxRecDepth 20000 in
theorem code_in_292 : codew 292 ∈ lw_tbl := in_t8 (List.mem_of_getElem? (i := 159) rfl)
set_option maxRecDepth 20000 in
theorem code_in_293 : codew 293 ∈ lw_tbl := in_t8 (List.mem_of_getElem? (i := 167) rfl)
set_option maxRecDepth 20000 in
theorem code_in_294 : codew 294 ∈ lw_tbl := in_t8 (List.mem_of_getElem? (i := 163) rfl)
set_option maxRecDepth 20000 in
theorem code_in_295 : codew 295 ∈ lw_tbl := in_t8 (List.mem_of_getElem? (i := 171) rfl)
set_option maxRecDepth 20000 in
theorem code_in_296 : codew 296 ∈ lw_tbl := in_t8 (List.mem_of_getElem? (i := 175) rfl)
set_option maxRecDepth 20000 in
theorem code_in_297 : codew 297 ∈ lw_tbl := in_t8 (List.mem_of_getElem? (i := 179) rfl)
set_option maxRecDepth 20000 in
theorem code_in_298 : codew 298 ∈ lw_tbl := in_t8 (List.mem_of_getElem? (i := 183) rfl)
set_option maxRecDepth 20000 in
theorem code_in_299 : codew 299 ∈ lw_tbl := in_t8 (List.mem_of_getElem? (i := 191) rfl)
set_option maxRecDepth 20000 in
theorem code_in_300 : codew 300 ∈ lw_tbl := in_t8 (List.mem_of_getElem? (i := 204) rfl)
set_option maxRecDepth 20000 in
theorem code_in_301 : codew 301 ∈ lw_tbl := in_t8 (List.mem_of_getElem? (i := 201) rfl)
set_option maxRecDepth 20000 in
theorem code_in_302 : codew 302 ∈ lw_tbl := in_t8 (List.mem_of_getElem? (i := 195) rfl)
set_option maxRecDepth 20000 in
theorem code_in_303 : codew 303 ∈ lw_tbl := in_t8 (List.mem_of_getElem? (i := 187) rfl)
set_option maxRecDepth 20000 in
theorem code_in_304 : codew 304 ∈ lw_tbl := in_t8 (List.mem_of_getElem? (i := 209) rfl)
set_option maxRecDepth 20000 in
theorem code_in_305 : codew 305 ∈ lw_tbl := in_t8 (List.mem_of_getElem? (i := 213) rfl)
set_option maxRecDepth 20000 in
theorem code_in_306 : codew 306 ∈ lw_tbl := in_t8 (List.mem_of_getElem? (i := 221) rfl)
set_option maxRecDepth 20000 in
theorem code_in_307 : codew 307 ∈ lw_tbl := in_t8 (List.mem_of_getElem? (i := 217) rfl)
set_option maxRecDepth 20000 in
theorem code_in_308 : codew 308 ∈ lw_tbl := in_t8 (List.mem_of_getElem? (i := 236) rfl)
set_option maxRecDepth 20000 in
theorem code_in_309 : codew 309 ∈ lw_tbl := in_t9 (List.mem_of_getElem? (i := 0) rfl)
set_option maxRecDepth 20000 in
theorem code_in_310 : codew 310 ∈ lw_tbl := in_t8 (List.mem_of_getElem? (i := 232) rfl)
set_option maxRecDepth 20000 in
theorem code_in_311 : codew 311 ∈ lw_tbl := in_t8 (List.mem_of_getElem? (i := 228) rfl)
set_option maxRecDepth 20000 in
theorem code_in_312 : codew 312 ∈ lw_tbl := in_t9 (List.mem_of_getElem? (i := 4) rfl)
set_option maxRecDepth 20000 in
theorem code_in_313 : codew 313 ∈ lw_tbl := in_t9 (List.mem_of_getElem? (i := 8) rfl)
set_option maxRecDepth 20000 in
theorem code_in_314 : codew 314 ∈ lw_tbl := in_t9 (List.mem_of_getElem? (i := 16) rfl)
set_option maxRecDepth 20000 in
theorem code_in_315 : codew 315 ∈ lw_tbl := in_t9 (List.mem_of_getElem? (i := 24) rfl)
set_option maxRecDepth 20000 in
theorem code_in_316 : codew 316 ∈ lw_tbl := in_t9 (List.mem_of_getElem? (i := 20) rfl)
set_option maxRecDepth 20000 in
theorem code_in_317 : codew 317 ∈ lw_tbl := in_t9 (List.mem_of_getElem? (i := 12) rfl)
set_option maxRecDepth 20000 in
theorem code_in_318 : codew 318 ∈ lw_tbl := in_t9 (List.mem_of_getElem? (i := 28) rfl)
set_option maxRecDepth 20000 in
theorem code_in_319 : codew 319 ∈ lw_tbl := in_t9 (List.mem_of_getElem? (i := 33) rfl)
set_option maxRecDepth 20000 in
theorem code_in_320 : codew 320 ∈ lw_tbl := in_t9 (List.mem_of_getElem? (i := 44) rfl)
set_option maxRecDepth 20000 in
theorem code_in_321 : codew 321 ∈ lw_tbl := in_t9 (List.mem_of_getElem? (i := 41) rfl)
set_option maxRecDepth 20000 in
theorem code_in_322 : codew 322 ∈ lw_tbl := in_t9 (List.mem_of_getElem? (i := 37) rfl)
set_option maxRecDepth 20000 in
theorem code_in_323 : codew 323 ∈ lw_tbl := in_t9 (List.mem_of_getElem? (i := 48) rfl)
set_option maxRecDepth 20000 in
theorem code_in_324 : codew 324 ∈ lw_tbl := in_t9 (List.mem_of_getElem? (i := 56) rfl)
set_option maxRecDepth 20000 in
theorem code_in_325 : codew 325 ∈ lw_tbl := in_t9 (List.mem_of_getElem? (i := 52) rfl)
set_option maxRecDepth 20000 in
theorem code_in_326 : codew 326 ∈ lw_tbl := in_t9 (List.mem_of_getElem? (i := 60) rfl)
set_option maxRecDepth 20000 in
theorem code_in_327 : codew 327 ∈ lw_tbl := in_t9 (List.mem_of_getElem? (i := 64) rfl)
set_option maxRecDepth 20000 in
theorem code_in_328 : codew 328 ∈ lw_tbl := in_t9 (List.mem_of_getElem? (i := 72) rfl)
set_option maxRecDepth 20000 in
theorem code_in_329 : codew 329 ∈ lw_tbl := in_t9 (List.mem_of_getElem? (i := 68) rfl)
set_option maxRecDepth 20000 in
theorem code_in_330 : codew 330 ∈ lw_tbl := in_t9 (List.mem_of_getElem? (i := 87) rfl)
set_option maxRecDepth 20000 in
theorem code_in_331 : codew 331 ∈ lw_tbl := in_t9 (List.mem_of_getElem? (i := 80) rfl)
set_option maxRecDepth 20000 in
theorem code_in_332 : codew 332 ∈ lw_tbl := in_t9 (List.mem_of_getElem? (i := 84) rfl)
set_option maxRecDepth 20000 in
theorem code_in_333 : codew 333 ∈ lw_tbl := in_t9 (List.mem_of_getElem? (i := 76) rfl)
set_option maxRecDepth 20000 in
theorem code_in_334 : codew 334 ∈ lw_tbl := in_t9 (List.mem_of_getElem? (i := 95) rfl)
set_option maxRecDepth 20000 in
theorem code_in_335 : codew 335 ∈ lw_tbl := in_t9 (List.mem_of_getElem? (i := 91) rfl)
set_option maxRecDepth 20000 in
theorem code_in_336 : codew 336 ∈ lw_tbl := in_t9 (List.mem_of_getElem? (i := 99) rfl)
set_option maxRecDepth 20000 in
theorem code_in_337 : codew 337 ∈ lw_tbl := in_t9 (List.mem_of_getElem? (i := 103) rfl)
set_option maxRecDepth 20000 in
theorem code_in_338 : codew 338 ∈ lw_tbl := in_t9 (List.mem_of_getElem? (i := 111) rfl)
set_option maxRecDepth 20000 in
theorem code_in_339 : codew 339 ∈ lw_tbl := in_t9 (List.mem_of_getElem? (i := 107) rfl)
set_option maxRecDepth 20000 in
theorem code_in_340 : codew 340 ∈ lw_tbl := in_t9 (List.mem_of_getElem? (i := 115) rfl)
set_option maxRecDepth 20000 in
theorem code_in_341 : codew 341 ∈ lw_tbl := in_t9 (List.mem_of_getElem? (i := 123) rfl)
set_option maxRecDepth 20000 in
theorem code_in_342 : codew 342 ∈ lw_tbl := in_t9 (List.mem_of_getElem? (i := 119) rfl)
set_option maxRecDepth 20000 in
theorem code_in_343 : codew 343 ∈ lw_tbl := in_t9 (List.mem_of_getElem? (i := 127) rfl)
set_option maxRecDepth 20000 in
theorem code_in_344 : codew 344 ∈ lw_tbl := in_t9 (List.mem_of_getElem? (i := 131) rfl)
set_option maxRecDepth 20000 in
theorem code_in_345 : codew 345 ∈ lw_tbl := in_t9 (List.mem_of_getElem? (i := 135) rfl)
set_option maxRecDepth 20000 in
theorem code_in_346 : codew 346 ∈ lw_tbl := in_t9 (List.mem_of_getElem? (i := 139) rfl)
set_option maxRecDepth 20000 in
theorem code_in_347 : codew 347 ∈ lw_tbl := in_t9 (List.mem_of_getElem? (i := 143) rfl)
set_option maxRecDepth 20000 in
theorem code_in_348 : codew 348 ∈ lw_tbl := in_t9 (List.mem_of_getElem? (i := 147) rfl)
set_option maxRecDepth 20000 in
theorem code_in_349 : codew 349 ∈ lw_tbl := in_t4 (List.mem_of_getElem? (i := 22) rfl)
set_option maxRecDepth 20000 in
theorem code_in_350 : codew 350 ∈ lw_tbl := in_t5 (List.mem_of_getElem? (i := 84) rfl)
set_option maxRecDepth 20000 in
theorem code_in_351 : codew 351 ∈ lw_tbl := in_t5 (List.mem_of_getElem? (i := 207) rfl)
set_option maxRecDepth 20000 in
theorem code_in_352 : codew 352 ∈ lw_tbl := in_t3 (List.mem_of_getElem? (i := 39) rfl)
set_option maxRecDepth 20000 in
theorem code_in_353 : codew 353 ∈ lw_tbl := in_t3 (List.mem_of_getElem? (i := 78) rfl)
set_option maxRecDepth 20000 in
theorem code_in_354 : codew 354 ∈ lw_tbl := in_t3 (List.mem_of_getElem? (i := 88) rfl)
set_option maxRecDepth 20000 in
theorem code_in_355 : codew 355 ∈ lw_tbl := in_t3 (List.mem_of_getElem? (i := 82) rfl)
set_option maxRecDepth 20000 in
theorem code_in_356 : codew 356 ∈ lw_tbl := in_t3 (List.mem_of_getElem? (i := 92) rfl)
set_option maxRecDepth 20000 in
theorem code_in_357 : codew 357 ∈ lw_tbl := in_t3 (List.mem_of_getElem? (i := 98) rfl)
set_option maxRecDepth 20000 in
theorem code_in_358 : codew 358 ∈ lw_tbl := in_t3 (List.mem_of_getElem? (i := 95) rfl)
set_option maxRecDepth 20000 in
theorem code_in_359 : codew 359 ∈ lw_tbl := in_t3 (List.mem_of_getElem? (i := 116) rfl)
set_option maxRecDepth 20000 in
theorem code_in_360 : codew 360 ∈ lw_tbl := in_t3 (List.mem_of_getElem? (i := 112) rfl)
set_option maxRecDepth 20000 in
theorem code_in_361 : codew 361 ∈ lw_tbl := in_t3 (List.mem_of_getElem? (i := 106) rfl)
set_option maxRecDepth 20000 in
theorem code_in_362 : codew 362 ∈ lw_tbl := in_t3 (List.mem_of_getElem? (i := 109) rfl)
set_option maxRecDepth 20000 in
theorem code_in_363 : codew 363 ∈ lw_tbl := in_t3 (List.mem_of_getElem? (i := 103) rfl)
theorem code_in : ∀ M, M < 364 → codew M ∈ lw_tbl
  | 0, _ => code_in_0
  | 1, _ => code_in_1
  | 2, _ => code_in_2
  | 3, _ => code_in_3
  | 4, _ => code_in_4
  | 5, _ => code_in_5
  | 6, _ => code_in_6
  | 7, _ => code_in_7
  | 8, _ => code_in_8
  | 9, _ => code_in_9
  | 10, _ => code_in_10
  | 11, _ => code_in_11
  | 12, _ => code_in_12
  | 13, _ => code_in_13
  | 14, _ => code_in_14
  | 15, _ => code_in_15
  | 16, _ => code_in_16
  | 17, _ => code_in_17
  | 18, _ => code_in_18
  | 19, _ => code_in_19
  | 20, _ => code_in_20
  | 21, _ => code_in_21
  | 22, _ => code_in_22
  | 23, _ => code_in_23
  | 24, _ => code_in_24
  | 25, _ => code_in_25
  | 26, _ => code_in_26
  | 27, _ => code_in_27
  | 28, _ => code_in_28
  | 29, _ => code_in_29
  | 30, _ => code_in_30
  | 31, _ => code_in_31
  | 32, _ => code_in_32
  | 33, _ => code_in_33
  | 34, _ => code_in_34
  | 35, _ => code_in_35
  | 36, _ => code_in_36
  | 37, _ => code_in_37
  | 38, _ => code_in_38
  | 39, _ => code_in_39
  | 40, _ => code_in_40
  | 41, _ => code_in_41
  | 42, _ => code_in_42
  | 43, _ => code_in_43
  | 44, _ => code_in_44
  | 45, _ => code_in_45
  | 46, _ => code_in_46
  | 47, _ => code_in_47
  | 48, _ => code_in_48
  | 49, _ => code_in_49
  | 50, _ => code_in_50
  | 51, _ => code_in_51
  | 52, _ => code_in_52
  | 53, _ => code_in_53
  | 54, _ => code_in_54
  | 55, _ => code_in_55
  | 56, _ => code_in_56
  | 57, _ => code_in_57
  | 58, _ => code_in_58
  | 59, _ => code_in_59
  | 60, _ => code_in_60
  | 61, _ => code_in_61
  | 62, _ => code_in_62
  | 63, _ => code_in_63
  | 64, _ => code_in_64
  | 65, _ => code_in_65
  | 66, _ => code_in_66
  | 67, _ => code_in_67
  | 68, _ => code_in_68
  | 69, _ => code_in_69
  | 70, _ => code_in_70
  | 71, _ => code_in_71
  | 72, _ => code_in_72
  | 73, _ => code_in_73
  | 74, _ => code_in_74
  | 75, _ => code_in_75
  | 76, _ => code_in_76
  | 77, _ => code_in_77
  | 78, _ => code_in_78
  | 79, _ => code_in_79
  | 80, _ => code_in_80
  | 81, _ => code_in_81
  | 82, _ => code_in_82
  | 83, _ => code_in_83
  | 84, _ => code_in_84
  | 85, _ => code_in_85
  | 86, _ => code_in_86
  | 87, _ => code_in_87
  | 88, _ => code_in_88
  | 89, _ => code_in_89
  | 90, _ => code_in_90
  | 91, _ => code_in_91
  | 92, _ => code_in_92
  | 93, _ => code_in_93
  | 94, _ => code_in_94
  | 95, _ => code_in_95
  | 96, _ => code_in_96
  | 97, _ => code_in_97
  | 98, _ => code_in_98
  | 99, _ => code_in_99
  | 100, _ => code_in_100
  | 101, _ => code_in_101
  | 102, _ => code_in_102
  | 103, _ => code_in_103
  | 104, _ => code_in_104
  | 105, _ => code_in_105
  | 106, _ => code_in_106
  | 107, _ => code_in_107
  | 108, _ => code_in_108
  | 109, _ => code_in_109
  | 110, _ => code_in_110
  | 111, _ => code_in_111
  | 112, _ => code_in_112
  | 113, _ => code_in_113
  | 114, _ => code_in_114
  | 115, _ => code_in_115
  | 116, _ => code_in_116
  | 117, _ => code_in_117
  | 118, _ => code_in_118
  | 119, _ => code_in_119
  | 120, _ => code_in_120
  | 121, _ => code_in_121
  | 122, _ => code_in_122
  | 123, _ => code_in_123
  | 124, _ => code_in_124
  | 125, _ => code_in_125
  | 126, _ => code_in_126
  | 127, _ => code_in_127
  | 128, _ => code_in_128
  | 129, _ => code_in_129
  | 130, _ => code_in_130
  | 131, _ => code_in_131
  | 132, _ => code_in_132
  | 133, _ => code_in_133
  | 134, _ => code_in_134
  | 135, _ => code_in_135
  | 136, _ => code_in_136
  | 137, _ => code_in_137
  | 138, _ => code_in_138
  | 139, _ => code_in_139
  | 140, _ => code_in_140
  | 141, _ => code_in_141
  | 142, _ => code_in_142
  | 143, _ => code_in_143
  | 144, _ => code_in_144
  | 145, _ => code_in_145
  | 146, _ => code_in_146
  | 147, _ => code_in_147
  | 148, _ => code_in_148
  | 149, _ => code_in_149
  | 150, _ => code_in_150
  | 151, _ => code_in_151
  | 152, _ => code_in_152
  | 153, _ => code_in_153
  | 154, _ => code_in_154
  | 155, _ => code_in_155
  | 156, _ => code_in_156
  | 157, _ => code_in_157
  | 158, _ => code_in_158
  | 159, _ => code_in_159
  | 160, _ => code_in_160
  | 161, _ => code_in_161
  | 162, _ => code_in_162
  | 163, _ => code_in_163
  | 164, _ => code_in_164
  | 165, _ => code_in_165
  | 166, _ => code_in_166
  | 167, _ => code_in_167
  | 168, _ => code_in_168
  | 169, _ => code_in_169
  | 170, _ => code_in_170
  | 171, _ => code_in_171
  | 172, _ => code_in_172
  | 173, _ => code_in_173
  | 174, _ => code_in_174
  | 175, _ => code_in_175
  | 176, _ => code_in_176
  | 177, _ => code_in_177
  | 178, _ => code_in_178
  | 179, _ => code_in_179
  | 180, _ => code_in_180
  | 181, _ => code_in_181
  | 182, _ => code_in_182
  | 183, _ => code_in_183
  | 184, _ => code_in_184
  | 185, _ => code_in_185
  | 186, _ => code_in_186
  | 187, _ => code_in_187
  | 188, _ => code_in_188
  | 189, _ => code_in_189
  | 190, _ => code_in_190
  | 191, _ => code_in_191
  | 192, _ => code_in_192
  | 193, _ => code_in_193
  | 194, _ => code_in_194
  | 195, _ => code_in_195
  | 196, _ => code_in_196
  | 197, _ => code_in_197
  | 198, _ => code_in_198
  | 199, _ => code_in_199
  | 200, _ => code_in_200
  | 201, _ => code_in_201
  | 202, _ => code_in_202
  | 203, _ => code_in_203
  | 204, _ => code_in_204
  | 205, _ => code_in_205
  | 206, _ => code_in_206
  | 207, _ => code_in_207
  | 208, _ => code_in_208
  | 209, _ => code_in_209
  | 210, _ => code_in_210
  | 211, _ => code_in_211
  | 212, _ => code_in_212
  | 213, _ => code_in_213
  | 214, _ => code_in_214
  | 215, _ => code_in_215
  | 216, _ => code_in_216
  | 217, _ => code_in_217
  | 218, _ => code_in_218
  | 219, _ => code_in_219
  | 220, _ => code_in_220
  | 221, _ => code_in_221
  | 222, _ => code_in_222
  | 223, _ => code_in_223
  | 224, _ => code_in_224
  | 225, _ => code_in_225
  | 226, _ => code_in_226
  | 227, _ => code_in_227
  | 228, _ => code_in_228
  | 229, _ => code_in_229
  | 230, _ => code_in_230
  | 231, _ => code_in_231
  | 232, _ => code_in_232
  | 233, _ => code_in_233
  | 234, _ => code_in_234
  | 235, _ => code_in_235
  | 236, _ => code_in_236
  | 237, _ => code_in_237
  | 238, _ => code_in_238
  | 239, _ => code_in_239
  | 240, _ => code_in_240
  | 241, _ => code_in_241
  | 242, _ => code_in_242
  | 243, _ => code_in_243
  | 244, _ => code_in_244
  | 245, _ => code_in_245
  | 246, _ => code_in_246
  | 247, _ => code_in_247
  | 248, _ => code_in_248
  | 249, _ => code_in_249
  | 250, _ => code_in_250
  | 251, _ => code_in_251
  | 252, _ => code_in_252
  | 253, _ => code_in_253
  | 254, _ => code_in_254
  | 255, _ => code_in_255
  | 256, _ => code_in_256
  | 257, _ => code_in_257
  | 258, _ => code_in_258
  | 259, _ => code_in_259
  | 260, _ => code_in_260
  | 261, _ => code_in_261
  | 262, _ => code_in_262
  | 263, _ => code_in_263
  | 264, _ => code_in_264
  | 265, _ => code_in_265
  | 266, _ => code_in_266
  | 267, _ => code_in_267
  | 268, _ => code_in_268
  | 269, _ => code_in_269
  | 270, _ => code_in_270
  | 271, _ => code_in_271
  | 272, _ => code_in_272
  | 273, _ => code_in_273
  | 274, _ => code_in_274
  | 275, _ => code_in_275
  | 276, _ => code_in_276
  | 277, _ => code_in_277
  | 278, _ => code_in_278
  | 279, _ => code_in_279
  | 280, _ => code_in_280
  | 281, _ => code_in_281
  | 282, _ => code_in_282
  | 283, _ => code_in_283
  | 284, _ => code_in_284
  | 285, _ => code_in_285
  | 286, _ => code_in_286
  | 287, _ => code_in_287
  | 288, _ => code_in_288
  | 289, _ => code_in_289
  | 290, _ => code_in_290
  | 291, _ => code_in_291
  | 292, _ => code_in_292
  | 293, _ => code_in_293
  | 294, _ => code_in_294
  | 295, _ => code_in_295
  | 296, _ => code_in_296
  | 297, _ => code_in_297
  | 298, _ => code_in_298
  | 299, _ => code_in_299
  | 300, _ => code_in_300
  | 301, _ => code_in_301
  | 302, _ => code_in_302
  | 303, _ => code_in_303
  | 304, _ => code_in_304
  | 305, _ => code_in_305
  | 306, _ => code_in_306
  | 307, _ => code_in_307
  | 308, _ => code_in_308
  | 309, _ => code_in_309
  | 310, _ => code_in_310
  | 311, _ => code_in_311
  | 312, _ => code_in_312
  | 313, _ => code_in_313
  | 314, _ => code_in_314
  | 315, _ => code_in_315
  | 316, _ => code_in_316
  | 317, _ => code_in_317
  | 318, _ => code_in_318
  | 319, _ => code_in_319
  | 320, _ => code_in_320
  | 321, _ => code_in_321
  | 322, _ => code_in_322
  | 323, _ => code_in_323
  | 324, _ => code_in_324
  | 325, _ => code_in_325
  | 326, _ => code_in_326
  | 327, _ => code_in_327
  | 328, _ => code_in_328
  | 329, _ => code_in_329
  | 330, _ => code_in_330
  | 331, _ => code_in_331
  | 332, _ => code_in_332
  | 333, _ => code_in_333
  | 334, _ => code_in_334
  | 335, _ => code_in_335
  | 336, _ => code_in_336
  | 337, _ => code_in_337
  | 338, _ => code_in_338
  | 339, _ => code_in_339
  | 340, _ => code_in_340
  | 341, _ => code_in_341
  | 342, _ => code_in_342
  | 343, _ => code_in_343
  | 344, _ => code_in_344
  | 345, _ => code_in_345
  | 346, _ => code_in_346
  | 347, _ => code_in_347
  | 348, _ => code_in_348
  | 349, _ => code_in_349
  | 350, _ => code_in_350
  | 351, _ => code_in_351
  | 352, _ => code_in_352
  | 353, _ => code_in_353
  | 354, _ => code_in_354
  | 355, _ => code_in_355
  | 356, _ => code_in_356
  | 357, _ => code_in_357
  | 358, _ => code_in_358
  | 359, _ => code_in_359
  | 360, _ => code_in_360
  | 361, _ => code_in_361
  | 362, _ => code_in_362
  | 363, _ => code_in_363
  | M + 364, h => absurd h (by omega)
def TXs (c : Nat) : u_T := match c with | 0 => TX0 | 1 => TX1 | 2 => TX2 | 3 => TX3 | 4 => TX4 | 5 => TX5 | 6 => TX6 | 7 => TX7 | 8 => TX8 | 9 => TX9 | 10 => TX10 | 11 => TX11 | _ => TX12
/-- field links: the class whose pool it is, the entry, the class, the slot; then where the word stands -/
def FTab : List (Nat × Nat × Nat × Nat × Nat) := [(7, 37, 7, 0, 143), (0, 31, 7, 0, 144), (10, 54, 7, 0, 145), (2, 81, 7, 0, 146), (5, 94, 7, 0, 147), (11, 319, 7, 0, 148), (7, 44, 7, 1, 149), (5, 55, 7, 2, 150), (7, 60, 7, 2, 151), (7, 9, 7, 3, 152), (2, 94, 7, 3, 153), (11, 180, 7, 3, 154), (7, 15, 7, 4, 155), (10, 45, 7, 4, 156), (2, 78, 7, 4, 157), (5, 61, 7, 4, 158), (11, 184, 7, 4, 159), (7, 18, 7, 5, 160), (7, 21, 7, 6, 161), (2, 72, 7, 6, 162), (5, 100, 7, 6, 163), (11, 187, 7, 6, 164), (4, 47, 7, 7, 165), (7, 47, 7, 7, 166), (0, 74, 7, 7, 167), (5, 74, 7, 7, 168), (11, 280, 7, 7, 169), (5, 42, 7, 8, 170), (7, 63, 7, 8, 171), (5, 49, 7, 9, 172), (7, 66, 7, 9, 173), (7, 24, 7, 10, 174), (4, 71, 7, 10, 175), (2, 58, 7, 10, 176), (11, 199, 7, 10, 177), (7, 27, 7, 11, 178), (2, 61, 7, 11, 179), (4, 103, 7, 11, 180), (11, 202, 7, 11, 181), (5, 64, 7, 12, 182), (2, 91, 7, 12, 183), (11, 143, 7, 12, 184), (7, 99, 7, 12, 185), (5, 184, 7, 13, 186), (11, 211, 7, 13, 187), (7, 91, 7, 13, 188), (7, 33, 7, 14, 189), (5, 165, 7, 14, 190), (11, 214, 7, 14, 191), (7, 30, 7, 15, 192), (7, 102, 7, 16, 193), (11, 217, 7, 17, 194), (7, 105, 7, 17, 195), (3, 9, 3, 0, 242), (0, 41, 3, 0, 243), (11, 240, 3, 0, 244), (3, 15, 3, 1, 245), (4, 88, 3, 1, 246), (11, 296, 3, 1, 247), (3, 18, 3, 2, 248), (0, 47, 3, 2, 249), (4, 110, 3, 2, 250), (10, 100, 3, 2, 251), (11, 372, 3, 2, 252), (3, 23, 3, 3, 253), (0, 15, 1, 0, 266), (1, 12, 1, 0, 267), (5, 24, 1, 0, 268), (10, 27, 1, 0, 269), (4, 27, 1, 0, 270), (11, 74, 1, 0, 271), (2, 38, 1, 0, 272), (0, 22, 1, 1, 273), (1, 21, 1, 1, 274), (10, 34, 1, 1, 275), (4, 34, 1, 1, 276), (11, 236, 1, 1, 277), (1, 27, 1, 2, 278), (1, 43, 1, 3, 279), (1, 40, 1, 4, 280), (11, 171, 1, 4, 281), (1, 32, 1, 5, 282), (1, 63, 1, 6, 283), (11, 100, 1, 6, 284), (0, 92, 1, 6, 285), (1, 36, 1, 7, 286), (2, 24, 1, 7, 287), (5, 107, 1, 7, 288), (11, 120, 1, 7, 289), (8, 11, 8, 0, 313), (8, 27, 8, 1, 314), (11, 96, 8, 1, 315), (8, 15, 8, 2, 316), (6, 96, 8, 2, 317), (8, 18, 8, 3, 318), (6, 97, 8, 3, 319), (8, 21, 8, 4, 320), (8, 24, 8, 5, 321), (6, 124, 8, 5, 322), (8, 31, 8, 6, 323), (6, 93, 8, 6, 324), (6, 39, 6, 0, 346), (6, 9, 6, 1, 347), (11, 111, 6, 1, 348), (6, 15, 6, 2, 349), (11, 114, 6, 2, 350), (6, 72, 6, 3, 351), (6, 49, 6, 4, 352), (6, 46, 6, 5, 353), (6, 59, 6, 6, 354), (6, 18, 6, 7, 355), (6, 22, 6, 8, 356), (6, 25, 6, 9, 357), (6, 62, 6, 10, 358), (6, 30, 6, 11, 359), (6, 33, 6, 12, 360), (6, 36, 6, 13, 361), (6, 104, 6, 14, 362), (6, 65, 6, 15, 363), (2, 20, 2, 0, 403), (2, 13, 2, 1, 404), (2, 17, 2, 2, 405), (5, 20, 5, 0, 419), (5, 30, 5, 1, 420), (5, 31, 5, 2, 421), (5, 9, 5, 3, 422), (5, 17, 5, 4, 423), (5, 71, 5, 5, 424), (0, 9, 0, 0, 444), (0, 21, 0, 1, 445), (0, 26, 0, 2, 446), (0, 27, 0, 3, 447), (4, 33, 4, 0, 463), (4, 38, 4, 1, 464), (4, 39, 4, 2, 465), (4, 9, 4, 3, 466), (4, 15, 4, 4, 467), (4, 18, 4, 5, 468), (4, 21, 4, 6, 469), (4, 24, 4, 7, 470), (10, 33, 10, 0, 494), (10, 38, 10, 1, 495), (10, 9, 10, 2, 496), (10, 15, 10, 3, 497), (10, 18, 10, 4, 498), (10, 21, 10, 5, 499), (10, 24, 10, 6, 500), (11, 10, 11, 0, 516), (11, 16, 11, 1, 517), (11, 22, 11, 2, 518), (11, 31, 11, 3, 519), (11, 40, 11, 4, 520), (11, 49, 11, 5, 521), (11, 56, 11, 6, 522), (11, 63, 11, 7, 523), (11, 70, 11, 8, 524), (9, 16, 9, 0, 768), (6, 83, 9, 0, 769), (2, 97, 9, 0, 770), (9, 7, 9, 1, 771), (6, 88, 9, 1, 772), (2, 100, 9, 1, 773), (9, 13, 9, 2, 774), (6, 89, 9, 2, 775), (2, 103, 9, 2, 776), (9, 19, 9, 3, 777), (5, 128, 9, 3, 778), (11, 154, 9, 3, 779), (9, 23, 9, 4, 780), (6, 90, 9, 4, 781), (5, 139, 9, 4, 782), (9, 26, 9, 5, 783), (6, 91, 9, 5, 784), (5, 133, 9, 5, 785), (9, 29, 9, 6, 786), (6, 92, 9, 6, 787), (5, 136, 9, 6, 788), (12, 7, 12, 0, 1509), (12, 13, 12, 1, 1510), (12, 16, 12, 2, 1511), (12, 19, 12, 3, 1512), (12, 87, 12, 4, 1513), (12, 22, 12, 5, 1514), (12, 26, 12, 6, 1515), (12, 94, 12, 7, 1516), (12, 101, 12, 8, 1517), (12, 104, 12, 9, 1518), (12, 110, 12, 10, 1519), (12, 117, 12, 11, 1520), (12, 142, 12, 12, 1521), (12, 145, 12, 13, 1522), (12, 157, 12, 14, 1523), (12, 29, 12, 15, 1524), (12, 154, 12, 16, 1525), (12, 171, 12, 17, 1526), (12, 188, 12, 18, 1527), (12, 227, 12, 19, 1528), (12, 32, 12, 20, 1529), (12, 35, 12, 21, 1530), (12, 39, 12, 22, 1531), (12, 281, 12, 23, 1532), (12, 284, 12, 24, 1533), (12, 43, 12, 25, 1534), (12, 46, 12, 26, 1535), (12, 49, 12, 27, 1536), (12, 52, 12, 28, 1537), (12, 55, 12, 29, 1538), (12, 58, 12, 30, 1539), (12, 61, 12, 31, 1540)]
def ftw (o i c k : Nat) : Cond := .fieldLink (cnm o) i (cnm c) (TXs c k).2.1 (TXs c k).2.2.1
theorem FTab_ok : FTab.all (fun f => decide (lw_tbl[f.2.2.2.2]? = some (ftw f.1 f.2.1 f.2.2.1 f.2.2.2.1))) = true := by decide +kernel
/-- method links: the class whose pool it is, the entry, how (0 virtual, 1 static, 2 init, 3 static of the nest), the method; then where the words stand -/
def mwords (o i kd M : Nat) : List Cond := match kd with | 0 => [.methodLink (cnm o) i (Py M), .instanceMethod (Py M), .selects (Py M).cls (Py M) (Py M), .initialized (Py M).cls] | 1 => [.methodLink (cnm o) i (Py M), .static (Py M), .initialized (Py M).cls] | 2 => [.methodLink (cnm o) i (Py M), .instanceMethod (Py M), .initialized (Py M).cls] | _ => [.methodLinkNest (cnm o) i (Py M) "UntilHeConfesses", .static (Py M), .initialized (Py M).cls]
def MTab_0 : List (Nat × Nat × Nat × Nat × List Nat) := [(18, 9, 2, 137, [125, 126, 105]), (11, 9, 2, 9, [133, 134, 106]), (1, 11, 2, 74, [139, 140, 107]), (1, 20, 2, 25, [236, 237, 108]), (11, 21, 2, 107, [309, 310, 109]), (11, 28, 2, 58, [342, 343, 110]), (11, 37, 2, 17, [399, 400, 111]), (11, 46, 2, 41, [415, 416, 112]), (11, 55, 2, 0, [440, 441, 113]), (11, 62, 2, 32, [459, 460, 114]), (11, 69, 2, 124, [490, 491, 115]), (18, 13, 0, 138, [544, 545, 546, 105]), (11, 78, 0, 75, [548, 549, 550, 107]), (7, 40, 0, 86, [552, 553, 554, 107]), (18, 18, 0, 139, [556, 557, 558, 105]), (11, 84, 0, 76, [560, 561, 562, 107]), (18, 23, 0, 140, [564, 565, 566, 105]), (11, 88, 0, 108, [568, 569, 570, 109]), (11, 92, 0, 109, [572, 573, 574, 109]), (18, 28, 0, 141, [576, 577, 578, 105]), (18, 33, 0, 142, [580, 581, 582, 105]), (11, 103, 0, 59, [584, 585, 586, 110]), (6, 43, 0, 60, [588, 590, 0, 110]), (6, 69, 0, 110, [592, 593, 594, 109]), (8, 34, 0, 111, [596, 598, 1, 109]), (8, 48, 1, 118, [600, 601, 109]), (8, 51, 1, 119, [603, 604, 109]), (8, 38, 1, 117, [606, 607, 109]), (8, 41, 0, 112, [609, 611, 2, 109]), (8, 45, 0, 113, [613, 615, 3, 109]), (8, 54, 0, 114, [617, 619, 4, 109]), (8, 65, 1, 352, [621, 622, 117]), (8, 58, 0, 115, [624, 626, 5, 109]), (8, 70, 1, 121, [628, 629, 109]), (8, 74, 0, 116, [655, 657, 6, 109]), (8, 78, 0, 353, [659, 660, 661, 118]), (14, 335, 0, 355, [663, 664, 665, 118]), (8, 84, 0, 354, [669, 670, 671, 118]), (14, 492, 0, 356, [673, 674, 675, 118]), (14, 495, 1, 358, [677, 678, 119]), (15, 9, 1, 357, [680, 681, 118]), (14, 1059, 1, 363, [685, 686, 120]), (14, 498, 1, 361, [688, 689, 121]), (16, 67, 1, 362, [691, 692, 121]), (16, 48, 1, 360, [694, 695, 121]), (16, 414, 1, 357, [697, 681, 118]), (16, 71, 1, 359, [698, 699, 121]), (8, 61, 1, 120, [707, 708, 109]), (6, 75, 0, 62, [710, 712, 7, 110]), (6, 52, 0, 64, [714, 716, 8, 110]), (6, 100, 0, 63, [718, 720, 9, 110]), (6, 107, 0, 69, [722, 724, 10, 110]), (6, 127, 0, 70, [726, 728, 11, 110]), (6, 120, 0, 67, [730, 732, 12, 110]), (6, 130, 0, 73, [734, 736, 13, 110]), (6, 135, 0, 71, [738, 740, 14, 110]), (6, 138, 0, 72, [742, 744, 15, 110]), (6, 113, 0, 68, [746, 748, 16, 110]), (6, 110, 0, 65, [750, 752, 17, 110]), (6, 116, 0, 66, [754, 756, 18, 110])]
theorem MTab_ok_0 : MTab_0.all (fun f => decide (f.2.2.2.2.map (fun p => lw_tbl[p]?) = (mwords f.1 f.2.1 f.2.2.1 f.2.2.2.1).map some)) = true := by decide +kernel
def MTab_1 : List (Nat × Nat × Nat × Nat × List Nat) := [(6, 55, 0, 61, [758, 760, 19, 110]), (6, 80, 2, 122, [764, 765, 122]), (6, 84, 3, 204, [805, 806, 105]), (11, 107, 0, 15, [808, 809, 810, 106]), (18, 38, 0, 143, [812, 813, 814, 105]), (18, 42, 0, 144, [816, 817, 818, 105]), (11, 117, 0, 13, [820, 821, 822, 106]), (18, 47, 0, 145, [824, 825, 826, 105]), (11, 123, 0, 42, [828, 829, 830, 112]), (5, 35, 0, 78, [832, 833, 834, 107]), (5, 39, 0, 10, [836, 837, 838, 106]), (1, 46, 0, 12, [840, 842, 20, 106]), (1, 57, 1, 349, [844, 845, 117]), (1, 50, 0, 104, [847, 848, 849, 107]), (11, 126, 0, 87, [851, 852, 853, 107]), (7, 75, 3, 196, [855, 856, 105]), (18, 51, 0, 146, [858, 859, 860, 105]), (11, 130, 0, 43, [862, 863, 864, 112]), (5, 46, 0, 84, [866, 867, 868, 107]), (7, 53, 0, 78, [870, 833, 834, 107]), (7, 69, 0, 82, [871, 872, 873, 107]), (7, 56, 3, 195, [875, 876, 105]), (7, 72, 0, 83, [878, 879, 880, 107]), (18, 55, 0, 147, [882, 883, 884, 105]), (11, 133, 0, 44, [886, 887, 888, 112]), (5, 52, 0, 77, [890, 891, 892, 107]), (11, 136, 0, 88, [894, 895, 896, 107]), (18, 59, 0, 148, [898, 899, 900, 105]), (11, 139, 0, 45, [902, 903, 904, 112]), (5, 58, 0, 86, [906, 553, 554, 107]), (18, 64, 0, 149, [907, 908, 909, 105]), (11, 146, 0, 46, [911, 912, 913, 112]), (5, 67, 0, 47, [915, 917, 21, 112]), (5, 77, 0, 85, [919, 920, 921, 107]), (5, 81, 0, 48, [923, 925, 22, 112]), (5, 110, 0, 14, [927, 928, 929, 106]), (1, 66, 0, 13, [931, 821, 822, 106]), (5, 97, 0, 81, [932, 933, 934, 107]), (5, 114, 0, 80, [936, 937, 938, 107]), (5, 117, 0, 19, [940, 941, 942, 111]), (2, 42, 0, 79, [944, 945, 946, 107]), (7, 50, 0, 77, [948, 891, 892, 107]), (2, 48, 0, 123, [949, 950, 951, 122]), (2, 54, 0, 22, [953, 955, 23, 111]), (2, 64, 0, 23, [957, 959, 24, 111]), (2, 106, 1, 352, [961, 622, 117]), (2, 112, 1, 24, [962, 963, 111]), (2, 68, 3, 199, [969, 970, 105]), (5, 121, 0, 94, [972, 973, 974, 107]), (5, 124, 0, 96, [976, 977, 978, 107]), (7, 108, 1, 349, [980, 845, 117]), (5, 85, 0, 21, [981, 982, 983, 111]), (2, 84, 0, 81, [985, 933, 934, 107]), (2, 87, 0, 20, [986, 987, 988, 111]), (2, 75, 0, 77, [990, 891, 892, 107]), (2, 30, 0, 14, [991, 928, 929, 106]), (5, 90, 0, 95, [992, 993, 994, 107]), (7, 95, 3, 199, [997, 970, 105]), (5, 103, 3, 199, [998, 970, 105]), (18, 68, 0, 150, [999, 1000, 1001, 105])]
theorem MTab_ok_1 : MTab_1.all (fun f => decide (f.2.2.2.2.map (fun p => lw_tbl[p]?) = (mwords f.1 f.2.1 f.2.2.1 f.2.2.2.1).map some)) = true := by decide +kernel
def MTab_2 : List (Nat × Nat × Nat × Nat × List Nat) := [(11, 150, 0, 14, [1003, 928, 929, 106]), (11, 159, 0, 49, [1004, 1005, 1006, 112]), (5, 142, 0, 75, [1008, 549, 550, 107]), (5, 146, 0, 76, [1009, 561, 562, 107]), (5, 149, 0, 42, [1010, 829, 830, 112]), (5, 152, 0, 43, [1011, 863, 864, 112]), (5, 155, 0, 44, [1012, 887, 888, 112]), (5, 158, 0, 45, [1013, 903, 904, 112]), (5, 162, 0, 46, [1014, 912, 913, 112]), (18, 72, 0, 151, [1015, 1016, 1017, 105]), (11, 163, 0, 50, [1019, 1020, 1021, 112]), (5, 168, 0, 51, [1023, 1025, 25, 112]), (5, 171, 0, 52, [1027, 1029, 26, 112]), (18, 76, 0, 152, [1031, 1032, 1033, 105]), (11, 167, 0, 11, [1035, 1036, 1037, 106]), (1, 54, 0, 105, [1039, 1040, 1041, 107]), (18, 80, 0, 153, [1043, 1044, 1045, 105]), (11, 174, 0, 77, [1047, 891, 892, 107]), (11, 177, 0, 80, [1048, 937, 938, 107]), (11, 190, 0, 81, [1049, 933, 934, 107]), (11, 193, 0, 20, [1050, 987, 988, 111]), (18, 84, 0, 154, [1051, 1052, 1053, 105]), (11, 196, 0, 78, [1055, 833, 834, 107]), (11, 205, 0, 82, [1056, 872, 873, 107]), (11, 208, 0, 83, [1057, 879, 880, 107]), (18, 88, 0, 155, [1058, 1059, 1060, 105]), (18, 92, 0, 156, [1062, 1063, 1064, 105]), (11, 220, 0, 98, [1066, 1067, 1068, 107]), (7, 114, 0, 97, [1070, 1072, 27, 107]), (11, 223, 0, 99, [1074, 1075, 1076, 107]), (11, 226, 0, 100, [1078, 1079, 1080, 107]), (18, 96, 0, 157, [1082, 1083, 1084, 105]), (11, 229, 0, 79, [1086, 945, 946, 107]), (11, 232, 0, 18, [1087, 1088, 1089, 111]), (2, 34, 0, 19, [1091, 941, 942, 111]), (18, 101, 0, 158, [1092, 1093, 1094, 105]), (18, 105, 0, 159, [1096, 1097, 1098, 105]), (11, 245, 0, 26, [1100, 1101, 1102, 108]), (11, 248, 0, 27, [1104, 1105, 1106, 108]), (18, 109, 0, 160, [1108, 1109, 1110, 105]), (11, 254, 0, 2, [1113, 1114, 1115, 113]), (0, 66, 0, 1, [1117, 1119, 28, 113]), (0, 37, 3, 195, [1121, 876, 105]), (0, 50, 0, 28, [1122, 1123, 1124, 108]), (0, 54, 0, 29, [1126, 1127, 1128, 108]), (0, 57, 0, 18, [1130, 1088, 1089, 111]), (0, 63, 0, 30, [1131, 1132, 1133, 108]), (0, 70, 3, 201, [1135, 1136, 105]), (18, 114, 0, 161, [1138, 1139, 1140, 105]), (11, 258, 0, 5, [1142, 1143, 1144, 113]), (0, 77, 1, 350, [1146, 1147, 117]), (18, 118, 0, 162, [1149, 1150, 1151, 105]), (11, 261, 0, 4, [1153, 1154, 1155, 113]), (18, 122, 0, 163, [1157, 1158, 1159, 105]), (11, 264, 0, 3, [1161, 1162, 1163, 113]), (18, 127, 0, 164, [1165, 1166, 1167, 105]), (11, 268, 0, 53, [1169, 1170, 1171, 112]), (5, 174, 0, 104, [1173, 848, 849, 107]), (5, 178, 0, 56, [1174, 1176, 29, 112]), (5, 181, 0, 105, [1178, 1040, 1041, 107])]
theorem MTab_ok_2 : MTab_2.all (fun f => decide (f.2.2.2.2.map (fun p => lw_tbl[p]?) = (mwords f.1 f.2.1 f.2.2.1 f.2.2.2.1).map some)) = true := by decide +kernel
def MTab_3 : List (Nat × Nat × Nat × Nat × List Nat) := [(11, 271, 0, 54, [1179, 1180, 1181, 112]), (18, 131, 0, 165, [1183, 1184, 1185, 105]), (11, 274, 0, 55, [1187, 1188, 1189, 112]), (18, 135, 0, 166, [1191, 1192, 1193, 105]), (11, 277, 0, 57, [1195, 1196, 1197, 112]), (5, 187, 3, 195, [1199, 876, 105]), (18, 139, 0, 167, [1200, 1201, 1202, 105]), (11, 283, 1, 197, [1204, 1205, 105]), (11, 286, 1, 196, [1207, 856, 105]), (11, 289, 0, 33, [1208, 1209, 1210, 114]), (4, 43, 3, 198, [1212, 1213, 105]), (11, 325, 1, 195, [1215, 876, 105]), (4, 53, 0, 18, [1216, 1088, 1089, 111]), (4, 59, 0, 34, [1217, 1219, 30, 114]), (4, 63, 3, 204, [1221, 806, 105]), (4, 67, 3, 202, [1222, 1223, 105]), (11, 375, 1, 203, [1225, 1226, 105]), (18, 144, 0, 168, [1228, 1229, 1230, 105]), (11, 293, 0, 6, [1232, 1233, 1234, 113]), (0, 83, 0, 85, [1236, 920, 921, 107]), (0, 86, 3, 200, [1237, 1238, 105]), (18, 148, 0, 169, [1241, 1242, 1243, 105]), (18, 152, 0, 170, [1245, 1246, 1247, 105]), (11, 299, 0, 35, [1249, 1250, 1251, 114]), (4, 76, 3, 200, [1254, 1238, 105]), (4, 80, 0, 36, [1255, 1257, 31, 114]), (4, 93, 3, 195, [1259, 876, 105]), (4, 84, 3, 201, [1260, 1136, 105]), (18, 157, 0, 171, [1261, 1262, 1263, 105]), (11, 303, 0, 37, [1265, 1266, 1267, 114]), (4, 97, 1, 351, [1269, 1270, 117]), (18, 162, 0, 172, [1272, 1273, 1274, 105]), (11, 307, 0, 38, [1276, 1277, 1278, 114]), (18, 166, 0, 173, [1280, 1281, 1282, 105]), (11, 310, 0, 89, [1284, 1285, 1286, 107]), (7, 79, 0, 85, [1288, 920, 921, 107]), (18, 170, 0, 174, [1289, 1290, 1291, 105]), (18, 174, 0, 175, [1293, 1294, 1295, 105]), (11, 313, 0, 39, [1297, 1298, 1299, 114]), (4, 106, 3, 199, [1301, 970, 105]), (4, 113, 0, 29, [1302, 1127, 1128, 108]), (4, 116, 0, 28, [1303, 1123, 1124, 108]), (18, 178, 0, 176, [1304, 1305, 1306, 105]), (11, 316, 0, 126, [1308, 1309, 1310, 115]), (10, 50, 0, 127, [1312, 1314, 32, 115]), (10, 58, 1, 125, [1316, 1317, 115]), (10, 39, 1, 350, [1319, 1147, 117]), (18, 182, 0, 177, [1320, 1321, 1322, 105]), (11, 322, 0, 132, [1324, 1325, 1326, 115]), (10, 73, 3, 198, [1328, 1213, 105]), (10, 77, 0, 133, [1329, 1331, 33, 115]), (10, 81, 3, 204, [1333, 806, 105]), (10, 85, 3, 202, [1334, 1223, 105]), (11, 328, 0, 131, [1335, 1336, 1337, 115]), (10, 70, 0, 132, [1339, 1325, 1326, 115]), (18, 186, 0, 178, [1340, 1341, 1342, 105]), (11, 331, 0, 129, [1344, 1345, 1346, 115]), (10, 62, 0, 128, [1348, 1350, 34, 115]), (18, 190, 0, 179, [1352, 1353, 1354, 105]), (11, 334, 0, 130, [1356, 1357, 1358, 115])]
theorem MTab_ok_3 : MTab_3.all (fun f => decide (f.2.2.2.2.map (fun p => lw_tbl[p]?) = (mwords f.1 f.2.1 f.2.2.1 f.2.2.2.1).map some)) = true := by decide +kernel
def MTab_4 : List (Nat × Nat × Nat × Nat × List Nat) := [(10, 66, 0, 86, [1360, 553, 554, 107]), (18, 195, 0, 180, [1361, 1362, 1363, 105]), (11, 338, 0, 21, [1365, 982, 983, 111]), (18, 199, 0, 181, [1366, 1367, 1368, 105]), (18, 203, 0, 182, [1370, 1371, 1372, 105]), (11, 341, 0, 134, [1374, 1375, 1376, 115]), (10, 89, 3, 199, [1378, 970, 105]), (10, 93, 0, 135, [1379, 1381, 35, 115]), (10, 105, 0, 28, [1383, 1123, 1124, 108]), (10, 108, 0, 29, [1384, 1127, 1128, 108]), (10, 111, 0, 30, [1385, 1132, 1133, 108]), (10, 97, 0, 136, [1386, 1388, 36, 115]), (18, 208, 0, 183, [1390, 1391, 1392, 105]), (11, 345, 0, 40, [1394, 1395, 1396, 114]), (18, 212, 0, 184, [1398, 1399, 1400, 105]), (18, 216, 0, 185, [1402, 1403, 1404, 105]), (11, 348, 0, 7, [1406, 1407, 1408, 113]), (0, 95, 0, 14, [1410, 928, 929, 106]), (0, 99, 0, 8, [1411, 1413, 37, 113]), (0, 103, 0, 19, [1415, 941, 942, 111]), (18, 220, 0, 186, [1416, 1417, 1418, 105]), (11, 351, 0, 101, [1420, 1421, 1422, 107]), (7, 117, 0, 100, [1424, 1079, 1080, 107]), (7, 120, 0, 99, [1425, 1075, 1076, 107]), (18, 224, 0, 187, [1426, 1427, 1428, 105]), (11, 354, 0, 103, [1430, 1431, 1432, 107]), (7, 123, 0, 101, [1434, 1421, 1422, 107]), (18, 228, 0, 188, [1435, 1436, 1437, 105]), (11, 357, 0, 91, [1439, 1440, 1441, 107]), (7, 82, 0, 92, [1443, 1445, 38, 107]), (7, 85, 0, 81, [1447, 933, 934, 107]), (18, 232, 0, 189, [1448, 1449, 1450, 105]), (11, 360, 0, 90, [1452, 1453, 1454, 107]), (18, 236, 0, 190, [1456, 1457, 1458, 105]), (11, 363, 0, 93, [1460, 1461, 1462, 107]), (7, 88, 0, 80, [1464, 937, 938, 107]), (18, 240, 0, 191, [1465, 1466, 1467, 105]), (11, 366, 0, 102, [1469, 1470, 1471, 107]), (18, 244, 0, 192, [1473, 1474, 1475, 105]), (11, 369, 0, 16, [1477, 1478, 1479, 106]), (1, 70, 0, 106, [1481, 1482, 1483, 107]), (7, 126, 3, 204, [1485, 806, 105]), (1, 74, 0, 31, [1486, 1487, 1488, 108]), (3, 26, 3, 204, [1490, 806, 105]), (1, 77, 3, 204, [1491, 806, 105]), (18, 248, 0, 193, [1492, 1493, 1494, 105]), (18, 252, 0, 194, [1496, 1497, 1498, 105]), (18, 12, 2, 205, [1502, 1503, 116]), (12, 64, 1, 206, [1506, 1507, 116]), (18, 17, 0, 219, [1607, 1608, 1609, 116]), (12, 68, 1, 207, [1611, 1612, 116]), (12, 76, 0, 218, [1614, 1616, 39, 116]), (12, 72, 0, 214, [1618, 1620, 40, 116]), (12, 80, 0, 215, [1622, 1624, 41, 116]), (18, 22, 0, 220, [1626, 1627, 1628, 116]), (12, 84, 0, 217, [1630, 1632, 42, 116]), (18, 27, 0, 222, [1634, 1635, 1636, 116]), (12, 90, 0, 221, [1638, 1640, 43, 116]), (18, 32, 0, 223, [1642, 1643, 1644, 116]), (18, 37, 0, 254, [1646, 1647, 1648, 116])]
theorem MTab_ok_4 : MTab_4.all (fun f => decide (f.2.2.2.2.map (fun p => lw_tbl[p]?) = (mwords f.1 f.2.1 f.2.2.1 f.2.2.2.1).map some)) = true := by decide +kernel
def MTab_5 : List (Nat × Nat × Nat × Nat × List Nat) := [(12, 240, 0, 253, [1650, 1652, 44, 116]), (12, 174, 0, 228, [1654, 1656, 45, 116]), (12, 97, 0, 224, [1658, 1660, 46, 116]), (12, 107, 1, 226, [1662, 1663, 116]), (12, 114, 1, 225, [1666, 1667, 116]), (12, 123, 1, 227, [1670, 1671, 116]), (12, 237, 0, 252, [1673, 1675, 47, 116]), (12, 224, 0, 251, [1677, 1679, 48, 116]), (12, 138, 1, 232, [1681, 1682, 116]), (12, 134, 1, 231, [1684, 1685, 116]), (12, 130, 1, 230, [1687, 1688, 116]), (12, 126, 1, 229, [1690, 1691, 116]), (12, 177, 0, 234, [1693, 1695, 49, 116]), (12, 220, 0, 236, [1697, 1699, 50, 116]), (12, 148, 1, 233, [1701, 1702, 116]), (12, 230, 1, 209, [1704, 1705, 116]), (12, 234, 0, 250, [1707, 1709, 51, 116]), (12, 213, 0, 249, [1711, 1713, 52, 116]), (12, 209, 0, 247, [1715, 1717, 53, 116]), (12, 217, 0, 248, [1719, 1721, 54, 116]), (12, 206, 0, 246, [1723, 1725, 55, 116]), (12, 200, 0, 245, [1727, 1729, 56, 116]), (12, 164, 1, 240, [1731, 1732, 116]), (12, 191, 0, 241, [1734, 1736, 57, 116]), (12, 167, 0, 235, [1738, 1740, 58, 116]), (12, 197, 0, 242, [1742, 1744, 59, 116]), (12, 203, 0, 244, [1746, 1748, 60, 116]), (12, 181, 0, 237, [1750, 1752, 61, 116]), (12, 185, 0, 239, [1755, 1757, 62, 116]), (12, 160, 0, 238, [1759, 1761, 63, 116]), (12, 194, 0, 243, [1763, 1765, 64, 116]), (18, 41, 0, 255, [1767, 1768, 1769, 116]), (18, 46, 0, 256, [1771, 1772, 1773, 116]), (18, 79, 0, 270, [1775, 1776, 1777, 116]), (18, 50, 0, 272, [1779, 1780, 1781, 116]), (12, 304, 0, 213, [1783, 1785, 65, 116]), (12, 307, 0, 269, [1787, 1789, 66, 116]), (12, 265, 0, 216, [1791, 1793, 67, 116]), (12, 310, 0, 271, [1795, 1797, 68, 116]), (18, 54, 0, 274, [1799, 1800, 1801, 116]), (12, 313, 0, 273, [1803, 1805, 69, 116]), (18, 58, 0, 275, [1807, 1808, 1809, 116]), (12, 316, 0, 212, [1811, 1813, 70, 116]), (18, 63, 0, 276, [1815, 1816, 1817, 116]), (18, 67, 0, 278, [1819, 1820, 1821, 116]), (12, 322, 0, 277, [1823, 1825, 71, 116]), (12, 319, 0, 268, [1827, 1829, 72, 116]), (12, 297, 0, 267, [1831, 1833, 73, 116]), (12, 287, 0, 262, [1835, 1837, 74, 116]), (12, 262, 0, 261, [1839, 1841, 75, 116]), (12, 258, 1, 208, [1843, 1844, 116]), (12, 268, 0, 260, [1846, 1848, 76, 116]), (12, 255, 0, 259, [1850, 1852, 77, 116]), (12, 247, 1, 257, [1854, 1855, 116]), (12, 251, 1, 258, [1859, 1860, 116]), (12, 291, 0, 264, [1862, 1864, 78, 116]), (12, 272, 0, 265, [1866, 1868, 79, 116]), (12, 294, 0, 266, [1873, 1875, 80, 116]), (12, 300, 0, 263, [1877, 1879, 81, 116]), (18, 71, 0, 280, [1882, 1883, 1884, 116])]
theorem MTab_ok_5 : MTab_5.all (fun f => decide (f.2.2.2.2.map (fun p => lw_tbl[p]?) = (mwords f.1 f.2.1 f.2.2.1 f.2.2.2.1).map some)) = true := by decide +kernel
def MTab_6 : List (Nat × Nat × Nat × Nat × List Nat) := [(12, 344, 0, 279, [1886, 1888, 82, 116]), (12, 325, 0, 219, [1890, 1608, 1609, 116]), (12, 329, 0, 220, [1891, 1627, 1628, 116]), (12, 332, 0, 272, [1892, 1780, 1781, 116]), (12, 335, 0, 274, [1893, 1800, 1801, 116]), (12, 338, 0, 275, [1894, 1808, 1809, 116]), (12, 341, 0, 276, [1895, 1816, 1817, 116]), (18, 75, 0, 282, [1896, 1897, 1898, 116]), (12, 347, 0, 281, [1900, 1902, 83, 116]), (18, 83, 0, 283, [1904, 1905, 1906, 116]), (18, 87, 0, 284, [1908, 1909, 1910, 116]), (18, 91, 0, 285, [1912, 1913, 1914, 116]), (18, 95, 0, 287, [1916, 1917, 1918, 116]), (12, 350, 0, 286, [1920, 1922, 84, 116]), (18, 100, 0, 288, [1924, 1925, 1926, 116]), (18, 223, 0, 290, [1928, 1929, 1930, 116]), (12, 353, 0, 289, [1932, 1934, 85, 116]), (18, 227, 0, 291, [1936, 1937, 1938, 116]), (18, 243, 0, 292, [1940, 1941, 1942, 116]), (18, 231, 0, 294, [1944, 1945, 1946, 116]), (12, 356, 0, 293, [1948, 1950, 86, 116]), (18, 235, 0, 295, [1952, 1953, 1954, 116]), (18, 239, 0, 296, [1956, 1957, 1958, 116]), (18, 104, 0, 297, [1960, 1961, 1962, 116]), (18, 108, 0, 298, [1964, 1965, 1966, 116]), (18, 113, 0, 303, [1968, 1969, 1970, 116]), (12, 366, 0, 299, [1972, 1974, 87, 116]), (12, 370, 0, 302, [1976, 1978, 88, 116]), (12, 363, 1, 210, [1980, 1981, 116]), (12, 373, 1, 301, [1983, 1984, 116]), (12, 359, 1, 300, [1986, 1987, 116]), (18, 126, 0, 304, [1990, 1991, 1992, 116]), (18, 121, 0, 305, [1994, 1995, 1996, 116]), (18, 117, 0, 307, [1998, 1999, 2000, 116]), (12, 382, 0, 306, [2002, 2004, 89, 116]), (12, 379, 1, 211, [2006, 2007, 116]), (18, 130, 0, 311, [2009, 2010, 2011, 116]), (12, 391, 0, 310, [2013, 2015, 90, 116]), (12, 385, 0, 308, [2017, 2019, 91, 116]), (12, 388, 0, 309, [2021, 2023, 92, 116]), (18, 134, 0, 312, [2025, 2026, 2027, 116]), (18, 138, 0, 313, [2029, 2030, 2031, 116]), (18, 143, 0, 317, [2033, 2034, 2035, 116]), (12, 394, 0, 314, [2037, 2039, 93, 116]), (12, 397, 0, 316, [2041, 2043, 94, 116]), (12, 400, 0, 315, [2045, 2047, 95, 116]), (18, 147, 0, 318, [2049, 2050, 2051, 116]), (18, 151, 0, 319, [2054, 2055, 2056, 116]), (18, 156, 0, 322, [2058, 2059, 2060, 116]), (12, 408, 0, 321, [2062, 2064, 96, 116]), (12, 405, 1, 320, [2066, 2067, 116]), (18, 161, 0, 323, [2069, 2070, 2071, 116]), (18, 165, 0, 325, [2073, 2074, 2075, 116]), (12, 411, 0, 324, [2077, 2079, 97, 116]), (18, 169, 0, 326, [2081, 2082, 2083, 116]), (18, 173, 0, 327, [2085, 2086, 2087, 116]), (18, 177, 0, 329, [2089, 2090, 2091, 116]), (12, 414, 0, 328, [2093, 2095, 98, 116]), (18, 181, 0, 333, [2097, 2098, 2099, 116]), (12, 420, 0, 331, [2101, 2103, 99, 116])]
theorem MTab_ok_6 : MTab_6.all (fun f => decide (f.2.2.2.2.map (fun p => lw_tbl[p]?) = (mwords f.1 f.2.1 f.2.2.1 f.2.2.2.1).map some)) = true := by decide +kernel
def MTab_7 : List (Nat × Nat × Nat × Nat × List Nat) := [(12, 423, 0, 332, [2105, 2107, 100, 116]), (12, 417, 1, 330, [2109, 2110, 116]), (18, 189, 0, 335, [2112, 2113, 2114, 116]), (12, 426, 0, 334, [2116, 2118, 101, 116]), (18, 194, 0, 336, [2120, 2121, 2122, 116]), (18, 198, 0, 337, [2124, 2125, 2126, 116]), (18, 185, 0, 339, [2128, 2129, 2130, 116]), (12, 429, 0, 338, [2132, 2134, 102, 116]), (18, 202, 0, 340, [2136, 2137, 2138, 116]), (18, 207, 0, 342, [2140, 2141, 2142, 116]), (12, 432, 0, 341, [2144, 2146, 103, 116]), (18, 211, 0, 343, [2148, 2149, 2150, 116]), (18, 215, 0, 344, [2152, 2153, 2154, 116]), (18, 219, 0, 345, [2156, 2157, 2158, 116]), (18, 247, 0, 346, [2160, 2161, 2162, 116]), (18, 251, 0, 347, [2164, 2165, 2166, 116]), (18, 255, 0, 348, [2168, 2169, 2170, 116])]
theorem MTab_ok_7 : MTab_7.all (fun f => decide (f.2.2.2.2.map (fun p => lw_tbl[p]?) = (mwords f.1 f.2.1 f.2.2.1 f.2.2.2.1).map some)) = true := by decide +kernel
def MTab : List (Nat × Nat × Nat × Nat × List Nat) := MTab_0 ++ MTab_1 ++ MTab_2 ++ MTab_3 ++ MTab_4 ++ MTab_5 ++ MTab_6 ++ MTab_7
theorem MTab_ok : MTab.all (fun f => decide (f.2.2.2.2.map (fun p => lw_tbl[p]?) = (mwords f.1 f.2.1 f.2.2.1 f.2.2.2.1).map some)) = true := by
  simp only [MTab, List.all_append, Bool.and_eq_true]
  exact ⟨⟨⟨⟨⟨⟨⟨MTab_ok_0, MTab_ok_1⟩, MTab_ok_2⟩, MTab_ok_3⟩, MTab_ok_4⟩, MTab_ok_5⟩, MTab_ok_6⟩, MTab_ok_7⟩
def ICab : List (Nat × Nat × Int × Nat) := [(2, 118, 1000000, 966), (2, 121, -1000000, 968), (7, 94, 99999999, 996), (12, 113, 99999, 1665), (12, 303, 99999999, 1881)]
theorem ICab_ok : ICab.all (fun f => decide (lw_tbl[f.2.2.2]? = some (.constant (cnm f.1) f.2.1 (Int32.ofInt f.2.2.1)))) = true := by decide +kernel
def LCab : List (Nat × Nat × Int × Nat) := [(2, 116, 1000000, 965), (2, 119, -1000000, 967), (11, 252, -1, 1112), (0, 90, 10, 1240), (4, 74, 10, 1253), (12, 121, 1152921504606846976, 1669), (12, 152, 105, 1754), (12, 243, 1000000, 1857), (12, 245, -1000000, 1858), (12, 275, 347, 1870), (12, 277, 229, 1871), (12, 279, 30403, 1872), (12, 377, -1, 1989), (12, 403, 10, 2053)]
theorem LCab_ok : LCab.all (fun f => decide (lw_tbl[f.2.2.2]? = some (.constantLong (cnm f.1) f.2.1 (Int64.ofInt f.2.2.1)))) = true := by decide +kernel
def strs : List String := ["guilt", "grief", "pays", "suspect", "murderer", "scene", "cut", "encore", "away", "seat", "night", "nerves", "habit", "row", "place", "heat", "length", "number", "i", "total", "of", "on", "for", ""]
def SCab : List (Nat × Nat × Nat × Nat) := [(8, 88, 0, 631), (8, 90, 1, 632), (8, 92, 2, 633), (8, 94, 3, 634), (8, 96, 4, 635), (8, 98, 5, 636), (8, 100, 6, 637), (8, 102, 7, 638), (8, 104, 8, 639), (8, 106, 9, 640), (8, 108, 10, 641), (8, 110, 11, 642), (8, 112, 12, 643), (8, 114, 13, 644), (8, 116, 14, 645), (8, 118, 15, 646), (8, 120, 16, 647), (8, 121, 17, 648), (8, 123, 18, 649), (8, 125, 19, 650), (8, 127, 20, 651), (8, 129, 21, 652), (8, 131, 22, 653), (8, 133, 23, 654)]
theorem SCab_ok : SCab.all (fun f => decide (lw_tbl[f.2.2.2]? = some (.stringRef (cnm f.1) f.2.1 (strs.getD f.2.2.1 "")))) = true := by decide +kernel
def CLab : List (Nat × Nat × Nat × Nat) := [(18, 7, 11, 123), (11, 7, 1, 131), (1, 9, 7, 137), (1, 18, 3, 234), (1, 30, 9, 264), (11, 19, 8, 307), (11, 26, 6, 340), (11, 35, 2, 397), (11, 44, 5, 413), (11, 53, 0, 438), (11, 60, 4, 457), (11, 67, 10, 488), (6, 78, 9, 762), (18, 10, 12, 1500)]
theorem CLab_ok : CLab.all (fun f => decide (lw_tbl[f.2.2.2]? = some (.classLink (cnm f.1) f.2.1 (cnm f.2.2.1)))) = true := by decide +kernel
def INab : List (Nat × Nat × Nat × Nat) := [(11, 9, 124, 105), (1, 8, 132, 106), (7, 18, 138, 107), (3, 4, 235, 108), (8, 7, 308, 109), (6, 16, 341, 110), (2, 3, 398, 111), (5, 6, 414, 112), (0, 4, 439, 113), (4, 8, 458, 114), (10, 7, 489, 115), (9, 7, 763, 122), (12, 32, 1501, 116)]
theorem INab_ok : INab.all (fun f => decide (lw_tbl[f.2.2.1]? = some (.instantiable (cnm f.1) f.2.1)) && decide (lw_tbl[f.2.2.2]? = some (.initialized (cnm f.1)))) = true := by decide +kernel
