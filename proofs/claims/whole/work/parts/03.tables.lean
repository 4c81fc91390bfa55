/-! THE TABLES of the program: its methods, links, and the cells that it makes (by program) -/
def mX0_init : MRec := (yX0_init, cX0_init, 2, none, 0, [2], 6, 36, 20)
def mX0_isSpare : MRec := (yX0_isSpare, cX0_isSpare, 2, some .boolean, 0, [2, 0], 0, 0, 20)
def mX0_hasSpareIn : MRec := (yX0_hasSpareIn, cX0_hasSpareIn, 3, some .boolean, 0, [2, 0], 0, 0, 41)
def mX0_firstSpare : MRec := (yX0_firstSpare, cX0_firstSpare, 2, some .int, 0, [2], 0, 0, 41)
def mX0_sparesBelow : MRec := (yX0_sparesBelow, cX0_sparesBelow, 4, some .int, 0, [2, 0], 0, 0, 41)
def mX0_cellsOf : MRec := (yX0_cellsOf, cX0_cellsOf, 5, some .int, 0, [2, 2, 0], 0, 0, 41)
def mX0_greatestOf : MRec := (yX0_greatestOf, cX0_greatestOf, 5, some .int, 0, [2, 2, 0], 0, 0, 41)
def mX0_workOf : MRec := (yX0_workOf, cX0_workOf, 5, some .int, 0, [2, 2, 0], 0, 0, 44)
def mX0_workFor : MRec := (yX0_workFor, cX0_workFor, 4, some .int, 0, [2, 2, 0, 0], 0, 0, 21)
def mX0_slowness : MRec := (yX0_slowness, cX0_slowness, 2, some .int, 0, [2, 0], 0, 0, 0)
def mX0_isIn : MRec := (yX0_isIn, cX0_isIn, 2, some .boolean, 0, [0, 0], 0, 0, 0)
def mX0_lookAround : MRec := (yX0_lookAround, cX0_lookAround, 6, some .int, 0, [2, 2], 0, 0, 66)
def mX0_meet : MRec := (yX0_meet, cX0_meet, 3, some .int, 0, [2, 0, 0], 0, 0, 20)
def mX0_shareOut : MRec := (yX0_shareOut, cX0_shareOut, 7, some .int, 0, [2, 2, 2, 0], 0, 0, 72)
def mX0_leastLimit : MRec := (yX0_leastLimit, cX0_leastLimit, 6, some .int, 0, [2, 0, 0], 0, 0, 21)
def mX0_takeUpTo : MRec := (yX0_takeUpTo, cX0_takeUpTo, 9, some .int, 0, [2, 2, 2, 0, 0, 0], 0, 0, 44)
def mX0_workThrough : MRec := (yX0_workThrough, cX0_workThrough, 6, some .int, 0, [2, 2, 0, 0], 0, 0, 91)
def mX0_workTick : MRec := (yX0_workTick, cX0_workTick, 6, none, 0, [2, 0, 0], 0, 0, 21)
def mX1_init : MRec := (yX1_init, cX1_init, 2, none, 1, [2], 3, 1008, 20)
def mX1_reckon : MRec := (yX1_reckon, cX1_reckon, 5, some .boolean, 1, [2, 2, 2, 2], 0, 0, 91)
def mX1_sendFrom : MRec := (yX1_sendFrom, cX1_sendFrom, 10, none, 1, [2, 2, 2, 2, 0], 0, 0, 62)
def mX1_amountBehind : MRec := (yX1_amountBehind, cX1_amountBehind, 3, some .int, 1, [2, 2, 0], 0, 0, 0)
def mX1_settle : MRec := (yX1_settle, cX1_settle, 4, none, 1, [2, 2, 2], 0, 0, 62)
def mX1_settleCell : MRec := (yX1_settleCell, cX1_settleCell, 3, none, 1, [2, 2, 0], 0, 0, 22)
def mX1_between : MRec := (yX1_between, cX1_between, 4, some .int, 1, [2, 2, 0, 0], 0, 0, 70)
def mX2_init : MRec := (yX2_init, cX2_init, 1, none, 2, [2], 0, 0, 20)
def mX2_tell : MRec := (yX2_tell, cX2_tell, 12, none, 2, [2, 1, 1], 0, 0, 0)
def mX3_init : MRec := (yX3_init, cX3_init, 1, none, 3, [2], 3, 1008, 20)
def mX3_take : MRec := (yX3_take, cX3_take, 2, none, 3, [2, 2], 0, 0, 64)
def mX3_bringBack : MRec := (yX3_bringBack, cX3_bringBack, 3, none, 3, [2, 2], 0, 0, 65)
def mX3_hasSameCells : MRec := (yX3_hasSameCells, cX3_hasSameCells, 3, some .boolean, 3, [2, 2], 0, 0, 41)
def mX3_othersIn : MRec := (yX3_othersIn, cX3_othersIn, 4, some .int, 3, [2, 2], 0, 0, 41)
def mX3_moreIn : MRec := (yX3_moreIn, cX3_moreIn, 2, some .int, 3, [2, 2], 0, 0, 64)
def mX3_flippedIn : MRec := (yX3_flippedIn, cX3_flippedIn, 4, some .int, 3, [2, 2], 0, 0, 64)
def mX4_init : MRec := (yX4_init, cX4_init, 1, none, 4, [2], 1, 40, 20)
def mX4_clear : MRec := (yX4_clear, cX4_clear, 1, none, 4, [2], 0, 0, 0)
def mX4_take : MRec := (yX4_take, cX4_take, 2, none, 4, [2, 2], 0, 0, 0)
def mX4_read : MRec := (yX4_read, cX4_read, 4, some .int, 4, [2, 2, 0], 0, 0, 110)
def mX4_copySigns : MRec := (yX4_copySigns, cX4_copySigns, 4, none, 4, [2, 2, 0], 0, 0, 87)
def mX4_readItem : MRec := (yX4_readItem, cX4_readItem, 1, some .boolean, 4, [2], 0, 0, 65)
def mX4_readGiven : MRec := (yX4_readGiven, cX4_readGiven, 2, some .boolean, 4, [2], 0, 0, 44)
def mX4_readOpen : MRec := (yX4_readOpen, cX4_readOpen, 2, some .boolean, 4, [2], 0, 0, 20)
def mX4_readNumber : MRec := (yX4_readNumber, cX4_readNumber, 5, some .boolean, 4, [2, 0], 0, 0, 20)
def mX4_sign : MRec := (yX4_sign, cX4_sign, 1, some .int, 4, [2], 0, 0, 0)
def mX4_fold : MRec := (yX4_fold, cX4_fold, 5, some .long, 4, [2, 1], 0, 0, 0)
def mX5_init : MRec := (yX5_init, cX5_init, 1, none, 5, [2], 5, 2849, 20)
def mX5_refresh : MRec := (yX5_refresh, cX5_refresh, 3, none, 5, [2, 2], 0, 0, 94)
def mX5_linkAll : MRec := (yX5_linkAll, cX5_linkAll, 7, none, 5, [2, 2, 0], 0, 0, 68)
def mX5_link : MRec := (yX5_link, cX5_link, 6, none, 5, [2, 2, 0, 0, 0], 0, 0, 43)
def mX5_lineUp : MRec := (yX5_lineUp, cX5_lineUp, 6, none, 5, [2, 2], 0, 0, 43)
def mX5_evenBits : MRec := (yX5_evenBits, cX5_evenBits, 1, some .int, 5, [0], 0, 0, 0)
def mX5_cellAt : MRec := (yX5_cellAt, cX5_cellAt, 2, some .int, 5, [2, 0], 0, 0, 0)
def mX5_partnersOf : MRec := (yX5_partnersOf, cX5_partnersOf, 6, some .int, 5, [2, 2, 0, 0], 0, 0, 62)
def mX6_init : MRec := (yX6_init, cX6_init, 1, none, 6, [2], 2, 672, 20)
def mX6_reckon : MRec := (yX6_reckon, cX6_reckon, 9, none, 6, [2, 2, 2, 2, 0, 0], 0, 0, 94)
def mX6_stepBack : MRec := (yX6_stepBack, cX6_stepBack, 13, some .long, 6, [2, 2, 2, 2, 0], 0, 0, 62)
def mX6_greatest : MRec := (yX6_greatest, cX6_greatest, 7, some .int, 6, [2, 2, 0], 0, 0, 41)
def mX7_init : MRec := (yX7_init, cX7_init, 3, none, 7, [2, 0], 2, 246, 20)
def mX7_isNumber : MRec := (yX7_isNumber, cX7_isNumber, 2, some .boolean, 7, [2, 0], 0, 0, 0)
def mX7_isThere : MRec := (yX7_isThere, cX7_isThere, 2, some .boolean, 7, [2, 0], 0, 0, 21)
def mX7_sizeOf : MRec := (yX7_sizeOf, cX7_sizeOf, 2, some .int, 7, [2, 0], 0, 0, 21)
def mX7_hasPlaces : MRec := (yX7_hasPlaces, cX7_hasPlaces, 4, some .boolean, 7, [2, 0, 0, 0], 0, 0, 42)
def mX7_make : MRec := (yX7_make, cX7_make, 5, none, 7, [2, 0, 0, 0], 0, 0, 21)
def mX7_remove : MRec := (yX7_remove, cX7_remove, 2, none, 7, [2, 0], 0, 0, 21)
def mX7_get : MRec := (yX7_get, cX7_get, 3, some .int, 7, [2, 0, 0], 0, 0, 65)
def mX7_swap : MRec := (yX7_swap, cX7_swap, 5, some .int, 7, [2, 0, 0, 0], 0, 0, 65)
def mX7_bring : MRec := (yX7_bring, cX7_bring, 6, none, 7, [2, 0, 0, 0, 0, 0], 0, 0, 65)
def mX7_howMany : MRec := (yX7_howMany, cX7_howMany, 3, some .int, 7, [2], 0, 0, 0)
def mX7_fold : MRec := (yX7_fold, cX7_fold, 7, some .long, 7, [2, 1], 0, 0, 87)
def mX8_init : MRec := (yX8_init, cX8_init, 2, none, 8, [2], 8, 2608, 65)
def mX8_layOut : MRec := (yX8_layOut, cX8_layOut, 3, none, 8, [2, 0], 0, 0, 20)
def mX8_paintAll : MRec := (yX8_paintAll, cX8_paintAll, 2, none, 8, [2], 0, 0, 44)
def mX8_paint : MRec := (yX8_paint, cX8_paint, 4, none, 8, [2, 0], 0, 0, 21)
def mX8_isThere : MRec := (yX8_isThere, cX8_isThere, 2, some .boolean, 8, [2, 0], 0, 0, 20)
def mX8_isFlowing : MRec := (yX8_isFlowing, cX8_isFlowing, 2, some .boolean, 8, [2, 0], 0, 0, 41)
def mX8_ownerAt : MRec := (yX8_ownerAt, cX8_ownerAt, 3, some .int, 8, [2, 0, 0], 0, 0, 21)
def mX8_giverAt : MRec := (yX8_giverAt, cX8_giverAt, 4, some .int, 8, [2, 0, 0], 0, 0, 43)
def mX8_property : MRec := (yX8_property, cX8_property, 3, some .int, 8, [2, 0, 0], 0, 0, 0)
def mX8_markOf : MRec := (yX8_markOf, cX8_markOf, 2, some .int, 8, [2, 0], 0, 0, 0)
def mX8_become : MRec := (yX8_become, cX8_become, 3, none, 8, [2, 0, 0], 0, 0, 0)
def mX8_canPart : MRec := (yX8_canPart, cX8_canPart, 2, some .boolean, 8, [2, 0], 0, 0, 0)
def mX8_cutInFour : MRec := (yX8_cutInFour, cX8_cutInFour, 5, none, 8, [2, 0], 0, 0, 44)
def mX8_hasFour : MRec := (yX8_hasFour, cX8_hasFour, 3, some .boolean, 8, [2, 0], 0, 0, 41)
def mX8_hasFourFine : MRec := (yX8_hasFourFine, cX8_hasFourFine, 3, some .boolean, 8, [2, 0], 0, 0, 63)
def mX8_sumOfFour : MRec := (yX8_sumOfFour, cX8_sumOfFour, 3, some .int, 8, [2, 0], 0, 0, 63)
def mX8_makeOneOfFour : MRec := (yX8_makeOneOfFour, cX8_makeOneOfFour, 4, none, 8, [2, 0], 0, 0, 85)
def mX8_partAbove : MRec := (yX8_partAbove, cX8_partAbove, 4, some .int, 8, [2, 0], 0, 0, 68)
def mX8_joinBelow : MRec := (yX8_joinBelow, cX8_joinBelow, 4, some .int, 8, [2, 0], 0, 0, 108)
def mX8_handOver : MRec := (yX8_handOver, cX8_handOver, 4, none, 8, [2, 0, 0], 0, 0, 41)
def mX8_cellsThere : MRec := (yX8_cellsThere, cX8_cellsThere, 3, some .int, 8, [2], 0, 0, 0)
def mX8_cellsOfKind : MRec := (yX8_cellsOfKind, cX8_cellsOfKind, 4, some .int, 8, [2, 0], 0, 0, 0)
def mX8_sumOfAmounts : MRec := (yX8_sumOfAmounts, cX8_sumOfAmounts, 4, some .long, 8, [2], 0, 0, 41)
def mX8_sumByNames : MRec := (yX8_sumByNames, cX8_sumByNames, 4, some .long, 8, [2], 0, 0, 41)
def mX8_sidesBetween : MRec := (yX8_sidesBetween, cX8_sidesBetween, 5, some .int, 8, [2, 0, 0], 0, 0, 46)
def mX8_overlap : MRec := (yX8_overlap, cX8_overlap, 6, some .int, 8, [0, 0, 0, 0], 0, 0, 21)
def mX8_fold : MRec := (yX8_fold, cX8_fold, 6, some .long, 8, [2, 1], 0, 0, 41)
def mX9_init : MRec := (yX9_init, cX9_init, 1, none, 9, [2], 49, 9839, 86)
def mX9_row : MRec := (yX9_row, cX9_row, 3, some .int, 9, [2, 0, 0], 0, 0, 45)
def mX9_lay : MRec := (yX9_lay, cX9_lay, 4, some .int, 9, [2, 0, 0, 0], 0, 0, 89)
def mX9_tear : MRec := (yX9_tear, cX9_tear, 2, some .int, 9, [2, 0], 0, 0, 42)
def mX9_copy : MRec := (yX9_copy, cX9_copy, 6, some .int, 9, [2, 0, 0, 0, 0, 0], 0, 0, 90)
def mX9_average : MRec := (yX9_average, cX9_average, 6, some .int, 9, [2, 0], 0, 0, 87)
def mX9_text : MRec := (yX9_text, cX9_text, 3, some .int, 9, [2, 0, 0], 0, 0, 45)
def mX9_put : MRec := (yX9_put, cX9_put, 4, some .int, 9, [2, 0, 0, 0], 0, 0, 89)
def mX9_fault : MRec := (yX9_fault, cX9_fault, 2, some .int, 9, [2, 0], 0, 0, 133)
def mX9_field : MRec := (yX9_field, cX9_field, 2, some .int, 9, [2, 0], 0, 0, 133)
def mX9_amount : MRec := (yX9_amount, cX9_amount, 4, some .int, 9, [2, 0, 0], 0, 0, 41)
def mX9_fill : MRec := (yX9_fill, cX9_fill, 4, some .int, 9, [2, 0], 0, 0, 87)
def mX9_told : MRec := (yX9_told, cX9_told, 3, some .int, 9, [2, 0, 0], 0, 0, 41)
def mX9_mark : MRec := (yX9_mark, cX9_mark, 4, some .int, 9, [2, 0, 0], 0, 0, 41)
def mX9_at : MRec := (yX9_at, cX9_at, 3, some .int, 9, [2, 0, 0], 0, 0, 43)
def mX9_part : MRec := (yX9_part, cX9_part, 2, some .int, 9, [2, 0], 0, 0, 68)
def mX9_join : MRec := (yX9_join, cX9_join, 3, some .int, 9, [2, 0], 0, 0, 108)
def mX9_edge : MRec := (yX9_edge, cX9_edge, 3, some .int, 9, [2, 0, 0], 0, 0, 64)
def mX9_freeze : MRec := (yX9_freeze, cX9_freeze, 3, some .int, 9, [2, 0, 0], 0, 0, 64)
def mX9_see : MRec := (yX9_see, cX9_see, 3, some .int, 9, [2, 0, 0], 0, 0, 64)
def mX9_tick : MRec := (yX9_tick, cX9_tick, 3, some .int, 9, [2], 0, 0, 131)
def mX9_flow : MRec := (yX9_flow, cX9_flow, 3, some .int, 9, [2, 0, 0], 0, 0, 93)
def mX9_sum : MRec := (yX9_sum, cX9_sum, 1, some .long, 9, [2], 0, 0, 64)
def mX9_top : MRec := (yX9_top, cX9_top, 4, some .int, 9, [2], 0, 0, 41)
def mX9_over : MRec := (yX9_over, cX9_over, 2, some .long, 9, [2, 0], 0, 0, 0)
def mX9_machine : MRec := (yX9_machine, cX9_machine, 4, some .int, 9, [2, 0, 0], 0, 0, 65)
def mX9_give : MRec := (yX9_give, cX9_give, 4, some .int, 9, [2, 0, 0], 0, 0, 41)
def mX9_bears : MRec := (yX9_bears, cX9_bears, 4, some .int, 9, [2, 0, 0], 0, 0, 68)
def mX9_work : MRec := (yX9_work, cX9_work, 2, some .int, 9, [2, 0], 0, 0, 68)
def mX9_cuts : MRec := (yX9_cuts, cX9_cuts, 1, some .int, 9, [2], 0, 0, 91)
def mX9_curve : MRec := (yX9_curve, cX9_curve, 2, some .int, 9, [2, 0], 0, 0, 116)
def mX9_deal : MRec := (yX9_deal, cX9_deal, 2, some .int, 9, [2, 0], 0, 0, 116)
def mX9_run : MRec := (yX9_run, cX9_run, 3, some .int, 9, [2, 0, 0], 0, 0, 116)
def mX9_ran : MRec := (yX9_ran, cX9_ran, 3, some .int, 9, [2, 0, 0], 0, 0, 20)
def mX9_keep : MRec := (yX9_keep, cX9_keep, 2, some .int, 9, [2, 0], 0, 0, 85)
def mX9_goOn : MRec := (yX9_goOn, cX9_goOn, 3, some .int, 9, [2, 0], 0, 0, 87)
def mX9_flip : MRec := (yX9_flip, cX9_flip, 4, some .int, 9, [2, 0, 0], 0, 0, 41)
def mX9_find : MRec := (yX9_find, cX9_find, 4, some .int, 9, [2, 0], 0, 0, 87)
def mX9_stops : MRec := (yX9_stops, cX9_stops, 3, some .int, 9, [2, 0], 0, 0, 64)
def mX9_keeping : MRec := (yX9_keeping, cX9_keeping, 4, some .int, 9, [2, 0, 0, 0], 0, 0, 49)
def mX9_best : MRec := (yX9_best, cX9_best, 5, some .int, 9, [2, 0, 0], 0, 0, 76)
def mX9_share : MRec := (yX9_share, cX9_share, 4, some .int, 9, [2, 0, 0, 0], 0, 0, 122)
def mX9_most : MRec := (yX9_most, cX9_most, 4, some .int, 9, [2, 0, 0], 0, 0, 122)
def mX9_off : MRec := (yX9_off, cX9_off, 3, some .int, 9, [2, 0, 0], 0, 0, 116)
def mX9_asked : MRec := (yX9_asked, cX9_asked, 1, some .int, 9, [2], 0, 0, 0)
def mX9_upper : MRec := (yX9_upper, cX9_upper, 1, some .long, 9, [2], 0, 0, 0)
def mX9_lower : MRec := (yX9_lower, cX9_lower, 1, some .long, 9, [2], 0, 0, 0)
def mX9_count : MRec := (yX9_count, cX9_count, 2, some .int, 9, [2, 0], 0, 0, 64)
def mX9_finding : MRec := (yX9_finding, cX9_finding, 1, some .int, 9, [2], 0, 0, 0)
def mX9_findings : MRec := (yX9_findings, cX9_findings, 2, some .int, 9, [2, 0], 0, 0, 0)
def mX9_digest : MRec := (yX9_digest, cX9_digest, 4, some .long, 9, [2], 0, 0, 113)
def mX9_refuse : MRec := (yX9_refuse, cX9_refuse, 2, some .int, 9, [2, 0], 0, 0, 0)
def mX9_turn : MRec := (yX9_turn, cX9_turn, 4, some .int, 9, [2, 0, 0, 0], 0, 0, 41)
def mX9_keptIn : MRec := (yX9_keptIn, cX9_keptIn, 2, some (.object "MeshWorlds$Kept"), 9, [2, 0], 0, 0, 0)
def mX9_keptStates : MRec := (yX9_keptStates, cX9_keptStates, 1, some .int, 9, [2], 0, 0, 0)
def mX9_isName : MRec := (yX9_isName, cX9_isName, 1, some .boolean, 9, [0], 0, 0, 0)
def mX9_isAmount : MRec := (yX9_isAmount, cX9_isAmount, 1, some .boolean, 9, [0], 0, 0, 0)
def mX9_isMachine : MRec := (yX9_isMachine, cX9_isMachine, 1, some .boolean, 9, [0], 0, 0, 0)
def mX9_isSlot : MRec := (yX9_isSlot, cX9_isSlot, 1, some .boolean, 9, [0], 0, 0, 0)
def mX9_isOnWorld : MRec := (yX9_isOnWorld, cX9_isOnWorld, 2, some .boolean, 9, [0, 0], 0, 0, 0)
def mX9_firstChildOf : MRec := (yX9_firstChildOf, cX9_firstChildOf, 1, some .int, 9, [0], 0, 0, 0)
def mX9_parentOf : MRec := (yX9_parentOf, cX9_parentOf, 1, some .int, 9, [0], 0, 0, 0)
def mX9_areOdds : MRec := (yX9_areOdds, cX9_areOdds, 2, some .boolean, 9, [0, 0], 0, 0, 0)
def mX9_power : MRec := (yX9_power, cX9_power, 6, some .long, 9, [1, 0], 0, 0, 0)
def mX9_keepingUpper : MRec := (yX9_keepingUpper, cX9_keepingUpper, 5, some .long, 9, [0, 0, 0], 0, 0, 25)
def mX9_takesLess : MRec := (yX9_takesLess, cX9_takesLess, 8, some .boolean, 9, [0, 0, 0, 0], 0, 0, 49)
def mX9_flowOf : MRec := (yX9_flowOf, cX9_flowOf, 7, some .int, 9, [0, 0, 0, 0, 0], 0, 0, 0)
def mX10_init : MRec := (yX10_init, cX10_init, 2, none, 10, [2], 38, 13262, 68)
def mX10_in : MRec := (yX10_in, cX10_in, 3, some .boolean, 10, [0, 0, 0], 0, 0, 0)
def mX10_meets : MRec := (yX10_meets, cX10_meets, 2, some .int, 10, [2, 0], 0, 0, 0)
def mX10_ask : MRec := (yX10_ask, cX10_ask, 3, some .int, 10, [2, 0, 0], 0, 0, 0)
def mX10_tells : MRec := (yX10_tells, cX10_tells, 12, some .int, 10, [2, 1, 1, 0], 0, 0, 0)
def mX10_isRow : MRec := (yX10_isRow, cX10_isRow, 1, some .boolean, 10, [0], 0, 0, 22)
def mX10_isText : MRec := (yX10_isText, cX10_isText, 1, some .boolean, 10, [0], 0, 0, 22)
def mX10_askedRow : MRec := (yX10_askedRow, cX10_askedRow, 2, some .int, 10, [2, 0], 0, 0, 42)
def mX10_askedText : MRec := (yX10_askedText, cX10_askedText, 2, some .int, 10, [2, 0], 0, 0, 42)
def mX10_row : MRec := (yX10_row, cX10_row, 4, some .int, 10, [2, 0, 0], 0, 0, 42)
def mX10_lay : MRec := (yX10_lay, cX10_lay, 5, some .int, 10, [2, 0, 0, 0], 0, 0, 63)
def mX10_tear : MRec := (yX10_tear, cX10_tear, 3, some .int, 10, [2, 0], 0, 0, 63)
def mX10_copy : MRec := (yX10_copy, cX10_copy, 7, some .int, 10, [2, 0, 0, 0, 0, 0], 0, 0, 42)
def mX10_average : MRec := (yX10_average, cX10_average, 6, some .int, 10, [2, 0], 0, 0, 63)
def mX10_text : MRec := (yX10_text, cX10_text, 4, some .int, 10, [2, 0, 0], 0, 0, 42)
def mX10_put : MRec := (yX10_put, cX10_put, 6, some .int, 10, [2, 0, 0, 0], 0, 0, 63)
def mX10_here : MRec := (yX10_here, cX10_here, 2, some .int, 10, [2, 0], 0, 0, 0)
def mX10_readsNumber : MRec := (yX10_readsNumber, cX10_readsNumber, 4, some .boolean, 10, [2, 0, 0], 0, 0, 22)
def mX10_readsItem : MRec := (yX10_readsItem, cX10_readsItem, 4, some .boolean, 10, [2, 0, 0], 0, 0, 45)
def mX10_reads : MRec := (yX10_reads, cX10_reads, 3, some .int, 10, [2, 0], 0, 0, 68)
def mX10_fault : MRec := (yX10_fault, cX10_fault, 3, some .int, 10, [2, 0], 0, 0, 90)
def mX10_field : MRec := (yX10_field, cX10_field, 3, some .int, 10, [2, 0], 0, 0, 90)
def mX10_side : MRec := (yX10_side, cX10_side, 1, some .int, 10, [0], 0, 0, 0)
def mX10_parent : MRec := (yX10_parent, cX10_parent, 1, some .int, 10, [0], 0, 0, 0)
def mX10_child : MRec := (yX10_child, cX10_child, 1, some .int, 10, [0], 0, 0, 0)
def mX10_leftOf : MRec := (yX10_leftOf, cX10_leftOf, 3, some .int, 10, [0], 0, 0, 20)
def mX10_topOf : MRec := (yX10_topOf, cX10_topOf, 3, some .int, 10, [0], 0, 0, 20)
def mX10_come : MRec := (yX10_come, cX10_come, 7, none, 10, [2, 0, 0, 0], 0, 0, 42)
def mX10_isName : MRec := (yX10_isName, cX10_isName, 1, some .boolean, 10, [0], 0, 0, 22)
def mX10_isAmount : MRec := (yX10_isAmount, cX10_isAmount, 1, some .boolean, 10, [0], 0, 0, 22)
def mX10_askedCell : MRec := (yX10_askedCell, cX10_askedCell, 2, some .int, 10, [2, 0], 0, 0, 42)
def mX10_amount : MRec := (yX10_amount, cX10_amount, 5, some .int, 10, [2, 0, 0], 0, 0, 63)
def mX10_fill : MRec := (yX10_fill, cX10_fill, 5, some .int, 10, [2, 0], 0, 0, 63)
def mX10_cellTells : MRec := (yX10_cellTells, cX10_cellTells, 3, some .int, 10, [2, 0, 0], 0, 0, 42)
def mX10_told : MRec := (yX10_told, cX10_told, 4, some .int, 10, [2, 0, 0], 0, 0, 64)
def mX10_mark : MRec := (yX10_mark, cX10_mark, 4, some .int, 10, [2, 0, 0], 0, 0, 63)
def mX10_at : MRec := (yX10_at, cX10_at, 3, some .int, 10, [2, 0, 0], 0, 0, 22)
def mX10_doPart : MRec := (yX10_doPart, cX10_doPart, 4, none, 10, [2, 0], 0, 0, 68)
def mX10_part : MRec := (yX10_part, cX10_part, 3, some .int, 10, [2, 0], 0, 0, 91)
def mX10_together : MRec := (yX10_together, cX10_together, 7, some .int, 10, [2, 0], 0, 0, 20)
def mX10_doJoin : MRec := (yX10_doJoin, cX10_doJoin, 5, none, 10, [2, 0], 0, 0, 68)
def mX10_join : MRec := (yX10_join, cX10_join, 3, some .int, 10, [2, 0], 0, 0, 92)
def mX10_become : MRec := (yX10_become, cX10_become, 7, some .int, 10, [2, 0, 0, 0, 0, 0], 0, 0, 63)
def mX10_edge : MRec := (yX10_edge, cX10_edge, 3, some .int, 10, [2, 0, 0], 0, 0, 89)
def mX10_freeze : MRec := (yX10_freeze, cX10_freeze, 3, some .int, 10, [2, 0, 0], 0, 0, 89)
def mX10_see : MRec := (yX10_see, cX10_see, 3, some .int, 10, [2, 0, 0], 0, 0, 89)
def mX10_beside : MRec := (yX10_beside, cX10_beside, 5, none, 10, [2, 0, 0], 0, 0, 22)
def mX10_setNear : MRec := (yX10_setNear, cX10_setNear, 6, none, 10, [2, 0], 0, 0, 46)
def mX10_flowOf : MRec := (yX10_flowOf, cX10_flowOf, 3, some .int, 10, [2, 0, 0], 0, 0, 20)
def mX10_setFlows : MRec := (yX10_setFlows, cX10_setFlows, 6, some .long, 10, [2], 0, 0, 71)
def mX10_takeFlows : MRec := (yX10_takeFlows, cX10_takeFlows, 2, none, 10, [2], 0, 0, 0)
def mX10_tick : MRec := (yX10_tick, cX10_tick, 7, some .int, 10, [2], 0, 0, 96)
def mX10_flow : MRec := (yX10_flow, cX10_flow, 5, some .int, 10, [2, 0, 0], 0, 0, 42)
def mX10_sum : MRec := (yX10_sum, cX10_sum, 4, some .long, 10, [2], 0, 0, 0)
def mX10_top : MRec := (yX10_top, cX10_top, 3, some .int, 10, [2], 0, 0, 0)
def mX10_over : MRec := (yX10_over, cX10_over, 2, some .long, 10, [2, 0], 0, 0, 0)
def mX10_isMachine : MRec := (yX10_isMachine, cX10_isMachine, 1, some .boolean, 10, [0], 0, 0, 22)
def mX10_cellsOf : MRec := (yX10_cellsOf, cX10_cellsOf, 4, some .int, 10, [2, 0], 0, 0, 0)
def mX10_machine : MRec := (yX10_machine, cX10_machine, 4, some .int, 10, [2, 0, 0], 0, 0, 42)
def mX10_give : MRec := (yX10_give, cX10_give, 5, some .int, 10, [2, 0, 0], 0, 0, 63)
def mX10_weighs : MRec := (yX10_weighs, cX10_weighs, 2, some .int, 10, [2, 0], 0, 0, 0)
def mX10_workOf : MRec := (yX10_workOf, cX10_workOf, 4, some .int, 10, [2, 0], 0, 0, 21)
def mX10_bears : MRec := (yX10_bears, cX10_bears, 5, some .int, 10, [2, 0, 0], 0, 0, 44)
def mX10_work : MRec := (yX10_work, cX10_work, 2, some .int, 10, [2, 0], 0, 0, 44)
def mX10_areUnlike : MRec := (yX10_areUnlike, cX10_areUnlike, 3, some .boolean, 10, [2, 0, 0], 0, 0, 0)
def mX10_cuts : MRec := (yX10_cuts, cX10_cuts, 3, some .int, 10, [2], 0, 0, 22)
def mX10_squareAt : MRec := (yX10_squareAt, cX10_squareAt, 4, some .int, 10, [0], 0, 0, 0)
def mX10_setCurve : MRec := (yX10_setCurve, cX10_setCurve, 4, none, 10, [2], 0, 0, 42)
def mX10_curve : MRec := (yX10_curve, cX10_curve, 2, some .int, 10, [2, 0], 0, 0, 65)
def mX10_deals : MRec := (yX10_deals, cX10_deals, 8, some .boolean, 10, [2, 0, 0, 0], 0, 0, 21)
def mX10_deal : MRec := (yX10_deal, cX10_deal, 4, some .int, 10, [2, 0], 0, 0, 65)
def mX10_setBeside : MRec := (yX10_setBeside, cX10_setBeside, 6, none, 10, [2], 0, 0, 0)
def mX10_run : MRec := (yX10_run, cX10_run, 7, some .int, 10, [2, 0, 0], 0, 0, 44)
def mX10_ran : MRec := (yX10_ran, cX10_ran, 3, some .int, 10, [2, 0, 0], 0, 0, 42)
def mX10_isSlot : MRec := (yX10_isSlot, cX10_isSlot, 1, some .boolean, 10, [0], 0, 0, 22)
def mX10_counted : MRec := (yX10_counted, cX10_counted, 5, some .int, 10, [2, 0], 0, 0, 0)
def mX10_keep : MRec := (yX10_keep, cX10_keep, 3, some .int, 10, [2, 0], 0, 0, 42)
def mX10_askedSlot : MRec := (yX10_askedSlot, cX10_askedSlot, 2, some .int, 10, [2, 0], 0, 0, 42)
def mX10_goOn : MRec := (yX10_goOn, cX10_goOn, 5, some .int, 10, [2, 0], 0, 0, 68)
def mX10_flip : MRec := (yX10_flip, cX10_flip, 5, some .int, 10, [2, 0, 0], 0, 0, 63)
def mX10_find : MRec := (yX10_find, cX10_find, 9, some .int, 10, [2, 0], 0, 0, 63)
def mX10_stops : MRec := (yX10_stops, cX10_stops, 4, some .int, 10, [2, 0], 0, 0, 42)
def mX10_power : MRec := (yX10_power, cX10_power, 6, some .long, 10, [1, 0], 0, 0, 0)
def mX10_areOdds : MRec := (yX10_areOdds, cX10_areOdds, 2, some .boolean, 10, [0, 0], 0, 0, 22)
def mX10_expected : MRec := (yX10_expected, cX10_expected, 5, some .long, 10, [0, 0, 0], 0, 0, 25)
def mX10_keeping : MRec := (yX10_keeping, cX10_keeping, 4, some .int, 10, [2, 0, 0, 0], 0, 0, 49)
def mX10_isBelow : MRec := (yX10_isBelow, cX10_isBelow, 19, some .boolean, 10, [1, 1, 1, 1], 0, 0, 0)
def mX10_best : MRec := (yX10_best, cX10_best, 5, some .int, 10, [2, 0, 0], 0, 0, 49)
def mX10_setShares : MRec := (yX10_setShares, cX10_setShares, 5, none, 10, [2, 0, 0], 0, 0, 101)
def mX10_nextShare : MRec := (yX10_nextShare, cX10_nextShare, 11, some .long, 10, [2, 0], 0, 0, 71)
def mX10_share : MRec := (yX10_share, cX10_share, 4, some .int, 10, [2, 0, 0, 0], 0, 0, 125)
def mX10_most : MRec := (yX10_most, cX10_most, 6, some .int, 10, [2, 0, 0], 0, 0, 125)
def mX10_off : MRec := (yX10_off, cX10_off, 6, some .int, 10, [2, 0, 0], 0, 0, 71)
def mX10_asked : MRec := (yX10_asked, cX10_asked, 1, some .int, 10, [2], 0, 0, 0)
def mX10_upper : MRec := (yX10_upper, cX10_upper, 1, some .long, 10, [2], 0, 0, 0)
def mX10_lower : MRec := (yX10_lower, cX10_lower, 1, some .long, 10, [2], 0, 0, 0)
def mX10_counts : MRec := (yX10_counts, cX10_counts, 4, some .int, 10, [2, 0], 0, 0, 24)
def mX10_count : MRec := (yX10_count, cX10_count, 2, some .int, 10, [2, 0], 0, 0, 47)
def mX10_finding : MRec := (yX10_finding, cX10_finding, 1, some .int, 10, [2], 0, 0, 0)
def mX10_findings : MRec := (yX10_findings, cX10_findings, 2, some .int, 10, [2, 0], 0, 0, 22)
def mX10_mix : MRec := (yX10_mix, cX10_mix, 3, none, 10, [2, 1], 0, 0, 0)
def mX10_digest : MRec := (yX10_digest, cX10_digest, 3, some .long, 10, [2], 0, 0, 47)
def mL_law : MRec := (yL_law, cL_law, 4, some .boolean, 11, [2], 89, 23179, 310)
def RC : Nat → String := fun k => match k with
  | 0 => RX0
  | 1 => RX1
  | 2 => RX2
  | 3 => RX3
  | 4 => RX4
  | 5 => RX5
  | 6 => RX6
  | 7 => RX7
  | 8 => RX8
  | 9 => RX9
  | 10 => RX10
  | 11 => RL
  | 12 => RJ9
  | _ => ""
def TC : Nat → u_T := fun k => match k with
  | 0 => TX0
  | 1 => TX1
  | 2 => TX2
  | 3 => TX3
  | 4 => TX4
  | 5 => TX5
  | 6 => TX6
  | 7 => TX7
  | 8 => TX8
  | 9 => TX9
  | _ => TX10
def NC : Nat → Nat := fun k => match k with
  | 0 => 6
  | 1 => 8
  | 2 => 2
  | 3 => 7
  | 4 => 9
  | 5 => 7
  | 6 => 3
  | 7 => 2
  | 8 => 10
  | 9 => 15
  | 10 => 63
  | _ => 0
def tyC : Nat → Nat → FieldType := fun k => match k with
  | 0 => tyX0
  | 1 => tyX1
  | 2 => tyX2
  | 3 => tyX3
  | 4 => tyX4
  | 5 => tyX5
  | 6 => tyX6
  | 7 => tyX7
  | 8 => tyX8
  | 9 => tyX9
  | _ => tyX10
def fldL : List (Nat × Nat × Nat × FldRow) := [
  (0, 9, 304, 0, 0, 0, 2, 1), (0, 15, 306, 0, 0, 1, 2, 1), (0, 18, 308, 0, 0, 2, 2, 1), (0, 21, 310, 0, 0, 3, 2, 1), (0, 24, 311, 0, 0, 4, 2, 1), (0, 27, 312, 0, 0, 5, 2, 1),
  (0, 46, 188, 1, 8, 2, 2, 1), (0, 49, 184, 1, 8, 1, 2, 1), (0, 62, 179, 1, 8, 0, 2, 1), (0, 73, 248, 1, 5, 6, 0, 0), (1, 9, 271, 0, 1, 0, 2, 1), (1, 15, 272, 0, 1, 1, 2, 1),
  (1, 18, 273, 0, 1, 2, 2, 1), (1, 21, 276, 0, 1, 5, 0, 0), (1, 25, 274, 0, 1, 3, 0, 0), (1, 41, 177, 1, 8, 0, 2, 1), (1, 51, 183, 1, 8, 1, 2, 1), (1, 54, 197, 1, 8, 6, 2, 1),
  (1, 57, 234, 1, 5, 0, 2, 1), (1, 62, 237, 1, 5, 1, 2, 1), (1, 65, 109, 1, 4, 0, 0, 0), (1, 70, 112, 1, 4, 1, 0, 0), (1, 73, 240, 1, 5, 2, 2, 1), (1, 80, 114, 1, 4, 2, 0, 0),
  (1, 83, 243, 1, 5, 3, 2, 1), (1, 86, 275, 0, 1, 4, 0, 0), (1, 89, 277, 0, 1, 6, 1, 0), (1, 97, 279, 0, 1, 7, 1, 0), (1, 100, 191, 1, 8, 3, 2, 1), (2, 7, 382, 0, 2, 1, 1, 0),
  (2, 13, 380, 0, 2, 0, 1, 0), (3, 9, 332, 0, 3, 0, 2, 1), (3, 15, 333, 0, 3, 1, 2, 1), (3, 18, 334, 0, 3, 2, 2, 1), (3, 21, 176, 1, 8, 0, 2, 1), (3, 30, 182, 1, 8, 1, 2, 1),
  (3, 31, 187, 1, 8, 2, 2, 1), (3, 32, 201, 1, 8, 8, 0, 0), (3, 36, 335, 0, 3, 3, 0, 0), (3, 41, 336, 0, 3, 4, 1, 0), (3, 47, 337, 0, 3, 5, 1, 0), (3, 49, 338, 0, 3, 6, 3, 0),
  (4, 9, 121, 0, 4, 5, 2, 1), (4, 18, 107, 0, 4, 0, 0, 0), (4, 22, 110, 0, 4, 1, 0, 0), (4, 25, 113, 0, 4, 2, 0, 0), (4, 28, 117, 0, 4, 3, 0, 0), (4, 31, 119, 0, 4, 4, 0, 0),
  (4, 38, 123, 0, 4, 7, 0, 0), (4, 41, 122, 0, 4, 6, 0, 0), (4, 72, 124, 0, 4, 8, 0, 0), (5, 9, 233, 0, 5, 0, 2, 1), (5, 15, 236, 0, 5, 1, 2, 1), (5, 18, 239, 0, 5, 2, 2, 1),
  (5, 21, 242, 0, 5, 3, 2, 1), (5, 24, 245, 0, 5, 4, 2, 1), (5, 27, 204, 1, 8, 9, 3, 0), (5, 33, 246, 0, 5, 5, 0, 0), (5, 49, 193, 1, 8, 4, 2, 1), (5, 52, 195, 1, 8, 5, 2, 1),
  (5, 55, 198, 1, 8, 6, 2, 1), (5, 66, 247, 0, 5, 6, 0, 0), (6, 9, 361, 0, 6, 0, 2, 0), (6, 15, 363, 0, 6, 1, 2, 0), (6, 18, 364, 0, 6, 2, 1, 0), (6, 34, 111, 1, 4, 1, 0, 0),
  (6, 43, 178, 1, 8, 0, 2, 1), (6, 47, 199, 1, 8, 6, 2, 1), (6, 50, 108, 1, 4, 0, 0, 0), (6, 55, 235, 1, 5, 0, 2, 1), (6, 60, 238, 1, 5, 1, 2, 1), (6, 63, 241, 1, 5, 2, 2, 1),
  (6, 66, 115, 1, 4, 2, 0, 0), (6, 69, 244, 1, 5, 3, 2, 1), (7, 9, 89, 0, 7, 0, 2, 1), (7, 15, 90, 0, 7, 1, 2, 1), (8, 9, 175, 0, 8, 0, 2, 1), (8, 15, 181, 0, 8, 1, 2, 1),
  (8, 18, 186, 0, 8, 2, 2, 1), (8, 21, 190, 0, 8, 3, 2, 1), (8, 24, 192, 0, 8, 4, 2, 1), (8, 27, 194, 0, 8, 5, 2, 1), (8, 30, 196, 0, 8, 6, 2, 1), (8, 33, 200, 0, 8, 7, 2, 1),
  (8, 54, 205, 0, 8, 9, 3, 0), (8, 69, 202, 0, 8, 8, 0, 0), (9, 14, 389, 0, 9, 0, 2, 1), (9, 18, 390, 0, 9, 1, 2, 1), (9, 24, 391, 0, 9, 2, 2, 1), (9, 28, 392, 0, 9, 3, 2, 1),
  (9, 34, 393, 0, 9, 4, 2, 1), (9, 41, 394, 0, 9, 5, 2, 1), (9, 48, 395, 0, 9, 6, 2, 1), (9, 55, 396, 0, 9, 7, 2, 1), (9, 62, 397, 0, 9, 8, 2, 1), (9, 66, 398, 0, 9, 9, 2, 1),
  (9, 72, 399, 0, 9, 10, 2, 1), (9, 79, 400, 0, 9, 11, 2, 1), (9, 83, 401, 0, 9, 12, 2, 1), (9, 110, 403, 0, 9, 14, 0, 0), (9, 143, 185, 1, 8, 1, 2, 1), (9, 149, 180, 1, 8, 0, 2, 1),
  (9, 202, 203, 1, 8, 8, 0, 0), (9, 205, 118, 1, 4, 3, 0, 0), (9, 211, 120, 1, 4, 4, 0, 0), (9, 225, 278, 1, 1, 6, 1, 0), (9, 229, 280, 1, 1, 7, 1, 0), (9, 239, 305, 1, 0, 0, 2, 1),
  (9, 243, 189, 1, 8, 2, 2, 1), (9, 259, 249, 1, 5, 6, 0, 0), (9, 275, 307, 1, 0, 1, 2, 1), (9, 278, 309, 1, 0, 2, 2, 1), (9, 294, 339, 1, 3, 6, 3, 0), (9, 343, 362, 1, 6, 0, 2, 0),
  (9, 347, 365, 1, 6, 2, 1, 0), (9, 353, 116, 1, 4, 2, 0, 0), (9, 359, 381, 1, 2, 0, 1, 0), (9, 362, 383, 1, 2, 1, 1, 0), (9, 374, 402, 0, 9, 13, 0, 0), (10, 7, 1087, 0, 10, 1, 2, 1),
  (10, 13, 1090, 0, 10, 4, 1, 0), (10, 17, 1091, 0, 10, 5, 2, 1), (10, 20, 1092, 0, 10, 6, 2, 1), (10, 23, 1093, 0, 10, 7, 2, 1), (10, 26, 1094, 0, 10, 8, 2, 1), (10, 29, 1095, 0, 10, 9, 2, 1),
  (10, 32, 1097, 0, 10, 11, 0, 0), (10, 36, 1099, 0, 10, 13, 0, 0), (10, 39, 1100, 0, 10, 14, 0, 0), (10, 42, 1108, 0, 10, 22, 2, 1), (10, 46, 1109, 0, 10, 23, 2, 1), (10, 49, 1110, 0, 10, 24, 2, 1),
  (10, 52, 1111, 0, 10, 25, 2, 1), (10, 55, 1112, 0, 10, 26, 2, 1), (10, 58, 1113, 0, 10, 27, 2, 1), (10, 61, 1116, 0, 10, 30, 2, 1), (10, 64, 1117, 0, 10, 31, 2, 1), (10, 67, 1120, 0, 10, 34, 2, 1),
  (10, 70, 1121, 0, 10, 35, 2, 1), (10, 73, 1122, 0, 10, 36, 2, 1), (10, 76, 1124, 0, 10, 38, 2, 1), (10, 79, 1125, 0, 10, 39, 2, 1), (10, 82, 1126, 0, 10, 40, 2, 1), (10, 85, 1127, 0, 10, 41, 2, 1),
  (10, 88, 1128, 0, 10, 42, 2, 1), (10, 91, 1131, 0, 10, 45, 2, 1), (10, 94, 1132, 0, 10, 46, 2, 1), (10, 97, 1134, 0, 10, 48, 2, 1), (10, 100, 1135, 0, 10, 49, 2, 1), (10, 103, 1136, 0, 10, 50, 2, 1),
  (10, 106, 1137, 0, 10, 51, 2, 1), (10, 109, 1138, 0, 10, 52, 2, 1), (10, 112, 1139, 0, 10, 53, 2, 1), (10, 115, 1140, 0, 10, 54, 2, 1), (10, 118, 1141, 0, 10, 55, 2, 1), (10, 121, 1142, 0, 10, 56, 2, 1),
  (10, 124, 1143, 0, 10, 57, 2, 1), (10, 127, 1144, 0, 10, 58, 2, 1), (10, 130, 1145, 0, 10, 59, 2, 1), (10, 133, 1146, 0, 10, 60, 2, 1), (10, 137, 1147, 0, 10, 61, 2, 1), (10, 144, 1086, 0, 10, 0, 0, 0),
  (10, 147, 1088, 0, 10, 2, 0, 0), (10, 150, 1089, 0, 10, 3, 1, 0), (10, 178, 1106, 0, 10, 20, 0, 0), (10, 181, 1107, 0, 10, 21, 0, 0), (10, 191, 1101, 0, 10, 15, 0, 0), (10, 194, 1102, 0, 10, 16, 0, 0),
  (10, 197, 1103, 0, 10, 17, 0, 0), (10, 200, 1104, 0, 10, 18, 0, 0), (10, 203, 1105, 0, 10, 19, 0, 0), (10, 212, 1096, 0, 10, 10, 0, 0), (10, 215, 1098, 0, 10, 12, 0, 0), (10, 260, 1114, 0, 10, 28, 0, 0),
  (10, 263, 1118, 0, 10, 32, 0, 0), (10, 266, 1115, 0, 10, 29, 0, 0), (10, 275, 1123, 0, 10, 37, 0, 0), (10, 284, 1119, 0, 10, 33, 0, 0), (10, 287, 1130, 0, 10, 44, 1, 0), (10, 290, 1129, 0, 10, 43, 1, 0),
  (10, 315, 1133, 0, 10, 47, 0, 0), (10, 373, 1148, 0, 10, 62, 1, 0)]
def fldT (o i : Nat) : Option FldRow := (fldL.find? (fun q => q.1 == o && q.2.1 == i)).map (fun q => q.2.2.2)
def calL0 : List (Nat × Nat × List Nat × Nat × MRec) := [
  (0, 3, [303], 6, mX9_init), (0, 30, [774, 760, 62, 759], 1, mX9_isMachine), (0, 34, [838, 840, 68, 839], 0, mX0_isIn), (0, 38, [800, 773, 68, 771, 772], 2, mX0_isSpare), (0, 41, [765, 164, 65, 162, 163], 2, mX8_isThere), (0, 52, [795, 734, 74, 733], 9, mX9_init),
  (0, 58, [783, 786, 68, 785, 18], 2, mX0_workFor), (0, 63, [787, 790, 68, 789, 19], 2, mX0_slowness), (0, 67, [813, 816, 65, 814, 815], 2, mX8_giverAt), (0, 70, [818, 821, 68, 820, 20], 2, mX0_meet), (0, 79, [845, 848, 65, 846, 847], 2, mX8_cellsOfKind), (0, 82, [849, 852, 68, 851, 21], 2, mX0_leastLimit),
  (0, 85, [853, 856, 68, 855, 22], 2, mX0_takeUpTo), (0, 89, [857, 829, 66, 827, 828], 2, mX5_cellAt), (0, 92, [858, 167, 62, 166], 1, mX9_isName), (0, 95, [867, 812, 68, 810, 811], 2, mX0_lookAround), (0, 99, [868, 782, 68, 780, 781], 2, mX0_workOf), (0, 103, [869], 8, mX9_init),
  (0, 109, [870, 873, 68, 872, 23], 2, mX0_workTick), (1, 3, [270], 6, mX9_init), (1, 28, [680, 683, 65, 681, 682], 2, mX8_isFlowing), (1, 34, [684, 687, 67, 686, 15], 2, mX1_sendFrom), (1, 38, [692, 164, 65, 162, 163], 2, mX8_isThere), (1, 44, [693, 696, 67, 695, 16], 2, mX1_amountBehind),
  (1, 48, [697, 558, 62, 557], 1, mX9_isAmount), (1, 76, [688, 690, 62, 689], 1, mX9_flowOf), (1, 93, [702, 705, 67, 704, 17], 2, mX1_settleCell), (1, 103, [725, 728, 65, 726, 727], 2, mX8_sidesBetween), (2, 1, [379], 6, mX9_init), (3, 3, [331], 6, mX9_init),
  (3, 24, [893], 8, mX9_init), (3, 37, [894, 745, 65, 743, 744], 2, mX8_sumOfAmounts), (3, 44, [895, 898, 65, 896, 897], 2, mX8_sumByNames), (3, 53, [911, 641, 65, 639, 640], 2, mX8_become), (3, 57, [912, 160, 65, 159, 2], 3, mX8_paintAll), (3, 60, [925, 164, 65, 162, 163], 2, mX8_isThere),
  (4, 3, [102], 6, mX9_init), (4, 15, [103, 106, 64, 105, 0], 2, mX4_clear), (4, 34, [517, 520, 64, 519, 5], 2, mX4_copySigns), (4, 44, [523, 526, 64, 525, 6], 2, mX4_readItem)]
def calL1 : List (Nat × Nat × List Nat × Nat × MRec) := [
  (4, 48, [521, 496, 63, 494, 495], 2, mX7_sizeOf), (4, 54, [522, 500, 63, 498, 499], 2, mX7_get), (4, 58, [527, 530, 64, 529, 7], 2, mX4_sign), (4, 62, [531, 534, 64, 533, 8], 2, mX4_readGiven), (4, 65, [539, 542, 64, 541, 10], 2, mX4_readOpen), (4, 68, [535, 538, 64, 537, 9], 2, mX4_readNumber),
  (5, 3, [232], 6, mX9_init), (5, 37, [658, 164, 65, 162, 163], 2, mX8_isThere), (5, 41, [659, 662, 66, 661, 12], 2, mX5_linkAll), (5, 45, [668, 671, 66, 670, 14], 2, mX5_lineUp), (5, 58, [663, 666, 66, 665, 13], 2, mX5_link), (5, 62, [667, 590, 65, 588, 589], 2, mX8_ownerAt),
  (5, 69, [672, 674, 66, 673], 0, mX5_evenBits), (5, 73, [675, 167, 62, 166], 1, mX9_isName), (5, 76, [1007, 683, 65, 681, 682], 2, mX8_isFlowing), (6, 3, [360], 6, mX9_init), (6, 22, [982, 164, 65, 162, 163], 2, mX8_isThere), (6, 28, [983, 986, 70, 985, 25], 2, mX6_stepBack),
  (6, 40, [988, 683, 65, 681, 682], 2, mX8_isFlowing), (7, 3, [88], 6, mX9_init), (7, 18, [451, 442, 63, 440, 441], 2, mX7_isNumber), (7, 22, [464, 459, 63, 457, 458], 2, mX7_isThere), (7, 25, [469, 463, 63, 461, 462], 2, mX7_hasPlaces), (7, 29, [486], 8, mX9_init),
  (7, 37, [1063, 500, 63, 498, 499], 2, mX7_get), (8, 3, [149], 6, mX9_init), (8, 36, [150, 153, 65, 152, 1], 2, mX8_layOut), (8, 40, [157, 160, 65, 159, 2], 2, mX8_paintAll), (8, 43, [154, 156, 62, 155], 1, mX9_parentOf), (8, 47, [161, 164, 65, 162, 163], 2, mX8_isThere),
  (8, 51, [168, 171, 65, 170, 3], 2, mX8_paint), (8, 58, [172, 174, 62, 173], 1, mX9_isOnWorld), (8, 62, [165, 167, 62, 166], 1, mX9_isName), (8, 65, [817, 590, 65, 588, 589], 2, mX8_ownerAt), (8, 73, [603, 598, 65, 596, 597], 2, mX8_canPart), (8, 76, [604, 606, 62, 605], 1, mX9_firstChildOf),
  (8, 79, [620, 615, 65, 613, 614], 2, mX8_hasFour), (8, 82, [629, 624, 65, 622, 623], 2, mX8_sumOfFour), (8, 85, [710, 602, 65, 600, 601], 2, mX8_cutInFour), (8, 88, [715, 619, 65, 617, 618], 2, mX8_hasFourFine)]
def calL2 : List (Nat × Nat × List Nat × Nat × MRec) := [
  (8, 91, [716, 628, 65, 626, 627], 2, mX8_makeOneOfFour), (8, 94, [729, 731, 65, 730], 0, mX8_overlap), (8, 98, [732, 734, 74, 733], 9, mX9_init), (8, 103, [735, 737, 74, 736], 10, mX9_init), (9, 1, [80], 6, mX9_init), (9, 11, [85, 87, 63, 86], 4, mX7_init),
  (9, 23, [99, 101, 64, 100], 4, mX4_init), (9, 33, [146, 148, 65, 147], 4, mX8_init), (9, 40, [229, 231, 66, 230], 4, mX5_init), (9, 47, [267, 269, 67, 268], 4, mX1_init), (9, 54, [300, 302, 68, 301], 4, mX0_init), (9, 61, [328, 330, 69, 329], 4, mX3_init),
  (9, 71, [357, 359, 70, 358], 4, mX6_init), (9, 78, [376, 378, 71, 377], 4, mX2_init), (9, 87, [439, 442, 63, 440, 441], 2, mX7_isNumber), (9, 91, [443, 446, 62, 445, 4], 2, mX9_refuse), (9, 95, [447, 450, 63, 448, 449], 2, mX7_make), (9, 99, [456, 459, 63, 457, 458], 2, mX7_isThere),
  (9, 102, [460, 463, 63, 461, 462], 2, mX7_hasPlaces), (9, 106, [465, 468, 63, 466, 467], 2, mX7_swap), (9, 114, [474, 477, 63, 475, 476], 2, mX7_remove), (9, 117, [482, 485, 63, 483, 484], 2, mX7_bring), (9, 121, [493, 496, 63, 494, 495], 2, mX7_sizeOf), (9, 124, [497, 500, 63, 498, 499], 2, mX7_get),
  (9, 128, [513, 516, 64, 514, 515], 2, mX4_read), (9, 132, [547, 550, 64, 548, 549], 2, mX4_take), (9, 136, [555, 167, 62, 166], 0, mX9_isName), (9, 139, [556, 558, 62, 557], 0, mX9_isAmount), (9, 142, [560, 164, 65, 162, 163], 2, mX8_isThere), (9, 146, [569, 572, 65, 570, 571], 2, mX8_property),
  (9, 152, [577, 156, 62, 155], 0, mX9_parentOf), (9, 155, [578, 581, 65, 579, 580], 2, mX8_markOf), (9, 158, [586, 174, 62, 173], 0, mX9_isOnWorld), (9, 162, [587, 590, 65, 588, 589], 2, mX8_ownerAt), (9, 165, [595, 598, 65, 596, 597], 2, mX8_canPart), (9, 168, [599, 602, 65, 600, 601], 2, mX8_cutInFour),
  (9, 171, [607, 606, 62, 605], 0, mX9_firstChildOf), (9, 174, [612, 615, 65, 613, 614], 2, mX8_hasFour), (9, 177, [616, 619, 65, 617, 618], 2, mX8_hasFourFine), (9, 180, [621, 624, 65, 622, 623], 2, mX8_sumOfFour)]
def calL3 : List (Nat × Nat × List Nat × Nat × MRec) := [
  (9, 184, [625, 628, 65, 626, 627], 2, mX8_makeOneOfFour), (9, 187, [634, 637, 62, 636, 11], 2, mX9_turn), (9, 190, [654, 657, 66, 655, 656], 2, mX5_refresh), (9, 194, [676, 679, 67, 677, 678], 2, mX1_reckon), (9, 198, [698, 701, 67, 699, 700], 2, mX1_settle), (9, 208, [706, 709, 65, 707, 708], 2, mX8_partAbove),
  (9, 214, [711, 714, 65, 712, 713], 2, mX8_joinBelow), (9, 217, [721, 724, 67, 722, 723], 2, mX1_between), (9, 221, [742, 745, 65, 743, 744], 2, mX8_sumOfAmounts), (9, 232, [758, 760, 62, 759], 0, mX9_isMachine), (9, 235, [761, 764, 68, 762, 763], 2, mX0_cellsOf), (9, 240, [770, 773, 68, 771, 772], 2, mX0_isSpare),
  (9, 246, [779, 782, 68, 780, 781], 2, mX0_workOf), (9, 249, [791, 794, 68, 792, 793], 2, mX0_greatestOf), (9, 252, [796, 799, 68, 797, 798], 2, mX0_sparesBelow), (9, 255, [809, 812, 68, 810, 811], 2, mX0_lookAround), (9, 262, [826, 829, 66, 827, 828], 2, mX5_cellAt), (9, 265, [834, 837, 68, 835, 836], 2, mX0_hasSpareIn),
  (9, 268, [841, 844, 68, 842, 843], 2, mX0_shareOut), (9, 272, [863, 866, 68, 864, 865], 2, mX0_workThrough), (9, 281, [882, 884, 62, 883], 0, mX9_isSlot), (9, 284, [885, 888, 62, 887, 24], 2, mX9_keptIn), (9, 288, [889, 892, 69, 890, 891], 2, mX3_take), (9, 290, [899, 902, 65, 900, 901], 2, mX8_cellsThere),
  (9, 298, [907, 910, 69, 908, 909], 2, mX3_bringBack), (9, 301, [921, 924, 69, 922, 923], 2, mX3_hasSameCells), (9, 305, [926, 929, 69, 927, 928], 2, mX3_othersIn), (9, 308, [930, 933, 69, 931, 932], 2, mX3_moreIn), (9, 311, [934, 937, 69, 935, 936], 2, mX3_flippedIn), (9, 314, [942, 945, 68, 943, 944], 2, mX0_firstSpare),
  (9, 317, [946, 949, 65, 947, 948], 2, mX8_handOver), (9, 321, [954, 956, 62, 955], 0, mX9_areOdds), (9, 324, [957, 959, 62, 958], 0, mX9_keepingUpper), (9, 328, [960, 962, 62, 961], 0, mX9_power), (9, 332, [963, 966, 71, 964, 965], 2, mX2_tell), (9, 336, [971, 973, 62, 972], 0, mX9_takesLess),
  (9, 340, [978, 981, 70, 979, 980], 2, mX6_reckon), (9, 350, [994, 997, 70, 995, 996], 2, mX6_greatest), (9, 356, [1003, 1006, 66, 1004, 1005], 2, mX5_partnersOf), (9, 365, [1024, 848, 65, 846, 847], 2, mX8_cellsOfKind)]
def calL4 : List (Nat × Nat × List Nat × Nat × MRec) := [
  (9, 368, [1025, 1028, 62, 1027, 26], 2, mX9_keptStates), (9, 371, [1029, 1032, 63, 1030, 1031], 2, mX7_howMany), (9, 381, [1047, 1023, 62, 1021, 1022], 2, mX9_count), (9, 384, [1048, 1051, 65, 1049, 1050], 2, mX8_fold), (9, 388, [1053, 1056, 64, 1054, 1055], 2, mX4_fold), (9, 389, [1058, 1061, 63, 1059, 1060], 2, mX7_fold),
  (9, 390, [638, 641, 65, 639, 640], 2, mX8_become), (10, 1, [1069], 6, mX9_init), (10, 140, [1070, 1073, 72, 1072, 27], 2, mX10_come), (10, 153, [1284, 1286, 72, 1285], 0, mX10_in), (10, 157, [1281, 1283, 72, 1282], 0, mX10_isRow), (10, 161, [1287, 1290, 72, 1289, 28], 2, mX10_meets),
  (10, 165, [1319, 1321, 72, 1320], 0, mX10_isText), (10, 168, [1295, 1298, 72, 1297, 29], 2, mX10_askedRow), (10, 171, [1311, 1314, 72, 1313, 30], 2, mX10_ask), (10, 175, [1326, 1329, 72, 1328, 31], 2, mX10_askedText), (10, 184, [1338, 1341, 72, 1340, 33], 2, mX10_here), (10, 187, [1346, 1349, 72, 1348, 35], 2, mX10_readsNumber),
  (10, 206, [1342, 1345, 72, 1344, 34], 2, mX10_readsItem), (10, 209, [1334, 1337, 72, 1336, 32], 2, mX10_reads), (10, 218, [1077, 1079, 72, 1078], 0, mX10_side), (10, 221, [1080, 1082, 72, 1081], 0, mX10_parent), (10, 224, [1074, 1076, 72, 1075], 0, mX10_leftOf), (10, 227, [1083, 1085, 72, 1084], 0, mX10_topOf),
  (10, 231, [1366, 1368, 72, 1367], 0, mX10_isName), (10, 234, [1358, 1360, 72, 1359], 0, mX10_isAmount), (10, 237, [1362, 1365, 72, 1364, 36], 2, mX10_askedCell), (10, 240, [1377, 1380, 72, 1379, 37], 2, mX10_cellTells), (10, 243, [1397, 1399, 72, 1398], 0, mX10_child), (10, 246, [1393, 1396, 72, 1395, 38], 2, mX10_doPart),
  (10, 250, [1404, 1407, 72, 1406, 39], 2, mX10_together), (10, 253, [1408, 1411, 72, 1410, 40], 2, mX10_doJoin), (10, 256, [1416, 1419, 72, 1418, 41], 2, mX10_become), (10, 269, [1440, 1443, 72, 1442, 44], 2, mX10_beside), (10, 278, [1436, 1439, 72, 1438, 43], 2, mX10_setNear), (10, 281, [1444, 1447, 72, 1446, 45], 2, mX10_flowOf),
  (10, 293, [1432, 1435, 72, 1434, 42], 2, mX10_setFlows), (10, 297, [1449, 1452, 72, 1451, 46], 2, mX10_takeFlows), (10, 300, [1473, 1475, 72, 1474], 0, mX10_isMachine), (10, 303, [1476, 1479, 72, 1478, 47], 2, mX10_cellsOf)]
def calL5 : List (Nat × Nat × List Nat × Nat × MRec) := [
  (10, 306, [1492, 1495, 72, 1494, 49], 2, mX10_weighs), (10, 309, [1488, 1491, 72, 1490, 48], 2, mX10_workOf), (10, 312, [1504, 1507, 72, 1506, 50], 2, mX10_areUnlike), (10, 318, [1516, 1518, 72, 1517], 0, mX10_squareAt), (10, 321, [1512, 1515, 72, 1514, 51], 2, mX10_setCurve), (10, 324, [1523, 1526, 72, 1525, 52], 2, mX10_deals),
  (10, 328, [1531, 1534, 72, 1533, 53], 2, mX10_setBeside), (10, 331, [1543, 1545, 72, 1544], 0, mX10_isSlot), (10, 334, [1546, 1549, 72, 1548, 54], 2, mX10_counted), (10, 337, [1554, 1557, 72, 1556, 55], 2, mX10_askedSlot), (10, 340, [1580, 1582, 72, 1581], 0, mX10_power), (10, 344, [1574, 1576, 72, 1575], 0, mX10_areOdds),
  (10, 347, [1577, 1579, 72, 1578], 0, mX10_expected), (10, 351, [1583, 1586, 72, 1585, 56], 2, mX10_tells), (10, 355, [1591, 1593, 72, 1592], 0, mX10_isBelow), (10, 359, [1602, 1605, 72, 1604, 58], 2, mX10_nextShare), (10, 365, [1598, 1601, 72, 1600, 57], 2, mX10_setShares), (10, 368, [1631, 1634, 72, 1633, 59], 2, mX10_counts),
  (10, 378, [1648, 1651, 72, 1650, 60], 2, mX10_mix), (11, 9, [77, 79, 62, 78], 4, mX9_init), (11, 12, [1066, 1068, 72, 1067], 4, mX10_init), (11, 13, [435, 438, 62, 436, 437], 2, mX9_row), (11, 17, [1277, 1280, 72, 1278, 1279], 2, mX10_row), (11, 18, [452, 455, 62, 453, 454], 2, mX9_lay),
  (11, 22, [1291, 1294, 72, 1292, 1293], 2, mX10_lay), (11, 23, [470, 473, 62, 471, 472], 2, mX9_tear), (11, 27, [1299, 1302, 72, 1300, 1301], 2, mX10_tear), (11, 28, [478, 481, 62, 479, 480], 2, mX9_copy), (11, 32, [1303, 1306, 72, 1304, 1305], 2, mX10_copy), (11, 33, [489, 492, 62, 490, 491], 2, mX9_average),
  (11, 36, [1307, 1310, 72, 1308, 1309], 2, mX10_average), (11, 37, [501, 504, 62, 502, 503], 2, mX9_text), (11, 40, [1315, 1318, 72, 1316, 1317], 2, mX10_text), (11, 41, [505, 508, 62, 506, 507], 2, mX9_put), (11, 44, [1322, 1325, 72, 1323, 1324], 2, mX10_put), (11, 45, [509, 512, 62, 510, 511], 2, mX9_fault),
  (11, 48, [1330, 1333, 72, 1331, 1332], 2, mX10_fault), (11, 49, [543, 546, 62, 544, 545], 2, mX9_field), (11, 52, [1350, 1353, 72, 1351, 1352], 2, mX10_field), (11, 53, [551, 554, 62, 552, 553], 2, mX9_amount)]
def calL6 : List (Nat × Nat × List Nat × Nat × MRec) := [
  (11, 56, [1354, 1357, 72, 1355, 1356], 2, mX10_amount), (11, 57, [561, 564, 62, 562, 563], 2, mX9_fill), (11, 60, [1369, 1372, 72, 1370, 1371], 2, mX10_fill), (11, 61, [565, 568, 62, 566, 567], 2, mX9_told), (11, 64, [1373, 1376, 72, 1374, 1375], 2, mX10_told), (11, 65, [573, 576, 62, 574, 575], 2, mX9_mark),
  (11, 68, [1381, 1384, 72, 1382, 1383], 2, mX10_mark), (11, 69, [582, 585, 62, 583, 584], 2, mX9_at), (11, 72, [1385, 1388, 72, 1386, 1387], 2, mX10_at), (11, 73, [591, 594, 62, 592, 593], 2, mX9_part), (11, 76, [1389, 1392, 72, 1390, 1391], 2, mX10_part), (11, 77, [608, 611, 62, 609, 610], 2, mX9_join),
  (11, 80, [1400, 1403, 72, 1401, 1402], 2, mX10_join), (11, 81, [630, 633, 62, 631, 632], 2, mX9_edge), (11, 85, [1412, 1415, 72, 1413, 1414], 2, mX10_edge), (11, 86, [642, 645, 62, 643, 644], 2, mX9_freeze), (11, 89, [1420, 1423, 72, 1421, 1422], 2, mX10_freeze), (11, 90, [646, 649, 62, 647, 648], 2, mX9_see),
  (11, 93, [1424, 1427, 72, 1425, 1426], 2, mX10_see), (11, 94, [650, 653, 62, 651, 652], 2, mX9_tick), (11, 98, [1428, 1431, 72, 1429, 1430], 2, mX10_tick), (11, 99, [717, 720, 62, 718, 719], 2, mX9_flow), (11, 102, [1453, 1456, 72, 1454, 1455], 2, mX10_flow), (11, 103, [738, 741, 62, 739, 740], 2, mX9_sum),
  (11, 107, [1457, 1460, 72, 1458, 1459], 2, mX10_sum), (11, 108, [746, 749, 62, 747, 748], 2, mX9_top), (11, 111, [1461, 1464, 72, 1462, 1463], 2, mX10_top), (11, 112, [750, 753, 62, 751, 752], 2, mX9_over), (11, 116, [1465, 1468, 72, 1466, 1467], 2, mX10_over), (11, 117, [754, 757, 62, 755, 756], 2, mX9_machine),
  (11, 120, [1469, 1472, 72, 1470, 1471], 2, mX10_machine), (11, 121, [766, 769, 62, 767, 768], 2, mX9_give), (11, 124, [1480, 1483, 72, 1481, 1482], 2, mX10_give), (11, 125, [775, 778, 62, 776, 777], 2, mX9_bears), (11, 128, [1484, 1487, 72, 1485, 1486], 2, mX10_bears), (11, 129, [801, 804, 62, 802, 803], 2, mX9_work),
  (11, 132, [1496, 1499, 72, 1497, 1498], 2, mX10_work), (11, 133, [805, 808, 62, 806, 807], 2, mX9_cuts), (11, 136, [1500, 1503, 72, 1501, 1502], 2, mX10_cuts), (11, 137, [822, 825, 62, 823, 824], 2, mX9_curve)]
def calL7 : List (Nat × Nat × List Nat × Nat × MRec) := [
  (11, 140, [1508, 1511, 72, 1509, 1510], 2, mX10_curve), (11, 141, [830, 833, 62, 831, 832], 2, mX9_deal), (11, 144, [1519, 1522, 72, 1520, 1521], 2, mX10_deal), (11, 145, [859, 862, 62, 860, 861], 2, mX9_run), (11, 148, [1527, 1530, 72, 1528, 1529], 2, mX10_run), (11, 149, [874, 877, 62, 875, 876], 2, mX9_ran),
  (11, 152, [1535, 1538, 72, 1536, 1537], 2, mX10_ran), (11, 153, [878, 881, 62, 879, 880], 2, mX9_keep), (11, 156, [1539, 1542, 72, 1540, 1541], 2, mX10_keep), (11, 157, [903, 906, 62, 904, 905], 2, mX9_goOn), (11, 160, [1550, 1553, 72, 1551, 1552], 2, mX10_goOn), (11, 161, [913, 916, 62, 914, 915], 2, mX9_flip),
  (11, 164, [1558, 1561, 72, 1559, 1560], 2, mX10_flip), (11, 165, [917, 920, 62, 918, 919], 2, mX9_find), (11, 168, [1562, 1565, 72, 1563, 1564], 2, mX10_find), (11, 169, [938, 941, 62, 939, 940], 2, mX9_stops), (11, 172, [1566, 1569, 72, 1567, 1568], 2, mX10_stops), (11, 173, [950, 953, 62, 951, 952], 2, mX9_keeping),
  (11, 176, [1570, 1573, 72, 1571, 1572], 2, mX10_keeping), (11, 177, [967, 970, 62, 968, 969], 2, mX9_best), (11, 180, [1587, 1590, 72, 1588, 1589], 2, mX10_best), (11, 181, [974, 977, 62, 975, 976], 2, mX9_share), (11, 184, [1594, 1597, 72, 1595, 1596], 2, mX10_share), (11, 185, [990, 993, 62, 991, 992], 2, mX9_most),
  (11, 188, [1607, 1610, 72, 1608, 1609], 2, mX10_most), (11, 189, [999, 1002, 62, 1000, 1001], 2, mX9_off), (11, 192, [1611, 1614, 72, 1612, 1613], 2, mX10_off), (11, 193, [1008, 1011, 62, 1009, 1010], 2, mX9_asked), (11, 196, [1615, 1618, 72, 1616, 1617], 2, mX10_asked), (11, 197, [1012, 1015, 62, 1013, 1014], 2, mX9_upper),
  (11, 200, [1619, 1622, 72, 1620, 1621], 2, mX10_upper), (11, 201, [1016, 1019, 62, 1017, 1018], 2, mX9_lower), (11, 204, [1623, 1626, 72, 1624, 1625], 2, mX10_lower), (11, 205, [1020, 1023, 62, 1021, 1022], 2, mX9_count), (11, 208, [1627, 1630, 72, 1628, 1629], 2, mX10_count), (11, 209, [1033, 1036, 62, 1034, 1035], 2, mX9_finding),
  (11, 212, [1635, 1638, 72, 1636, 1637], 2, mX10_finding), (11, 213, [1037, 1040, 62, 1038, 1039], 2, mX9_findings), (11, 216, [1639, 1642, 72, 1640, 1641], 2, mX10_findings), (11, 217, [1041, 1044, 62, 1042, 1043], 2, mX9_digest)]
def calL8 : List (Nat × Nat × List Nat × Nat × MRec) := [
  (11, 220, [1643, 1646, 72, 1644, 1645], 2, mX10_digest)]
def calL : List (Nat × Nat × List Nat × Nat × MRec) := calL0 ++ (calL1 ++ (calL2 ++ (calL3 ++ (calL4 ++ (calL5 ++ (calL6 ++ (calL7 ++ (calL8))))))))
def calT (o i : Nat) : Option (Nat × MRec) := (calL.find? (fun q => q.1 == o && q.2.1 == i)).map (fun q => q.2.2.2)
def newL : List (Nat × Nat × List Nat × Nat) := [
  (9, 7, [83, 84, 63], 7), (9, 21, [97, 98, 64], 4), (9, 31, [144, 145, 65], 8), (9, 38, [227, 228, 66], 5), (9, 45, [265, 266, 67], 1), (9, 52, [298, 299, 68], 0),
  (9, 59, [326, 327, 69], 3), (9, 69, [355, 356, 70], 6), (9, 76, [374, 375, 71], 2), (11, 7, [75, 76, 62], 9), (11, 10, [1064, 1065, 72], 10)]
def newT (o i : Nat) : Option Nat := (newL.find? (fun q => q.1 == o && q.2.1 == i)).map (fun q => q.2.2.2)
def ldcL : List (Nat × Nat × Nat × Int) := [
  (9, 183, 559, 1000000), (10, 230, 1361, 1000000)]
def ldcT (o i : Nat) : Option Int := (ldcL.find? (fun q => q.1 == o && q.2.1 == i)).map (fun q => q.2.2.2)
def ldc2L : List (Nat × Nat × Nat × Int) := [
  (4, 75, 1057, 31), (6, 32, 987, 16), (6, 53, 989, 4), (6, 72, 998, (-1)), (7, 35, 1062, 31), (8, 106, 1052, 31),
  (9, 377, 1045, 17), (9, 379, 1046, 31), (9, 393, 691, 4), (10, 273, 1448, 4), (10, 363, 1606, 16), (10, 371, 1652, 31),
  (10, 376, 1647, 17), (10, 382, 1653, (-1))]
def ldc2T (o i : Nat) : Option Int := (ldc2L.find? (fun q => q.1 == o && q.2.1 == i)).map (fun q => q.2.2.2)
def shL : List (Nat × Int) := [
  (9, 15), (7, 2), (11, 6), (11, 240), (7, 2), (11, 4), (11, 160), (4, 9), (11, 40), (4, 9), (11, 40), (8, 10),
  (11, 336), (11, 336), (11, 336), (11, 336), (11, 336), (11, 336), (11, 336), (11, 256), (5, 7), (11, 337), (11, 960), (11, 960),
  (11, 336), (11, 256), (1, 8), (11, 336), (11, 336), (11, 336), (0, 6), (11, 6), (11, 6), (11, 6), (11, 6), (11, 6),
  (11, 6), (3, 7), (11, 336), (11, 336), (11, 336), (3, 7), (11, 336), (11, 336), (11, 336), (6, 3), (12, 336), (12, 336),
  (2, 2), (11, 6), (10, 63), (11, 6), (11, 6), (11, 240), (11, 40), (11, 4), (11, 160), (13, 336), (11, 336), (11, 336),
  (11, 336), (11, 336), (11, 256), (11, 16), (11, 16), (11, 1024), (11, 1024), (11, 1024), (11, 1024), (11, 1024), (11, 1024), (11, 336),
  (11, 336), (13, 336), (11, 6), (11, 256), (11, 6), (11, 6), (11, 6), (11, 6), (13, 36), (13, 2), (13, 672), (11, 672),
  (11, 672), (11, 672), (11, 2), (12, 336), (12, 336)]
def shK (r : Int) : Nat := if r = -2 then 11 else if r < 0 then 99 else (shL.getD r.toNat (99, 0)).1
def shN (r : Int) : Int := if r < 0 then 0 else (shL.getD r.toNat (99, 0)).2
def ftL : List (List Nat) := [[2, 2, 2, 2, 2, 2], [2, 2, 2, 0, 0, 0, 1, 1], [1, 1], [2, 2, 2, 0, 1, 1, 3], [0, 0, 0, 0, 0, 2, 0, 0, 0], [2, 2, 2, 2, 2, 0, 0], [2, 2, 1], [2, 2], [2, 2, 2, 2, 2, 2, 2, 2, 0, 3], [2, 2, 2, 2, 2, 2, 2, 2, 2, 2, 2, 2, 2, 0, 0], [0, 2, 0, 1, 1, 2, 2, 2, 2, 2, 0, 0, 0, 0, 0, 0, 0, 0, 0, 0, 0, 0, 2, 2, 2, 2, 2, 2, 0, 0, 2, 2, 0, 0, 2, 2, 2, 0, 2, 2, 2, 2, 2, 1, 1, 2, 2, 0, 2, 2, 2, 2, 2, 2, 2, 2, 2, 2, 2, 2, 2, 2, 1]]
def ftT (ci k : Nat) : Nat := (ftL.getD ci []).getD k 0
def refL : List (Int × Int × Int) := [
  (0, 0, 1), (0, 1, 4), (0, 2, 7), (0, 3, 9), (0, 4, 11), (0, 5, 20), (0, 6, 26), (0, 7, 30), (0, 8, 37), (0, 9, 41),
  (0, 10, 45), (0, 11, 48), (0, 12, 49), (1, 0, 2), (1, 1, 3), (4, 0, 5), (4, 1, 6), (7, 5, 8), (9, 5, 10), (11, 0, 12),
  (11, 1, 13), (11, 2, 14), (11, 3, 15), (11, 4, 16), (11, 5, 17), (11, 6, 18), (11, 7, 19), (20, 0, 21), (20, 1, 22), (20, 2, 23),
  (20, 3, 24), (20, 4, 25), (26, 0, 27), (26, 1, 28), (26, 2, 29), (30, 0, 31), (30, 1, 32), (30, 2, 33), (30, 3, 34), (30, 4, 35),
  (30, 5, 36), (37, 0, 38), (37, 1, 39), (37, 2, 40), (41, 0, 42), (41, 1, 43), (41, 2, 44), (50, 1, 51), (50, 5, 52), (50, 6, 53),
  (50, 7, 54), (50, 8, 55), (50, 9, 56), (50, 22, 57), (50, 23, 58), (50, 24, 59), (50, 25, 60), (50, 26, 61), (50, 27, 62), (50, 30, 63),
  (50, 31, 64), (50, 34, 65), (50, 35, 66), (50, 36, 67), (50, 38, 68), (50, 39, 69), (50, 40, 70), (50, 41, 71), (50, 42, 72), (50, 45, 73),
  (50, 46, 74), (50, 48, 75), (50, 49, 76), (50, 50, 77), (50, 51, 78), (50, 52, 79), (50, 53, 80), (50, 54, 81), (50, 55, 82), (50, 56, 83),
  (50, 57, 84), (50, 58, 85), (50, 59, 86), (50, 60, 87), (50, 61, 88)]
def refT (a k : Int) : Int := match refL.find? (fun q => q.1 == a && q.2.1 == k) with
  | some q => q.2.2
  | none => -7
/-- the known references, with a script of n ints -/
def EF (n : Int) : PvEnv := fun a k => if a = -2 then n else if a = -3 then 0 else refT a k
