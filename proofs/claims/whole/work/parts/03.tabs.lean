/-! ===== printed by wip/whole/gen02.py: the tables of the small machine ===== -/
def GT : List Cond := lw_tbl.filter goodWord
theorem in_GT {ws : List Cond} (ps : List Nat) (hp : ws = ps.filterMap (fun i => lw_tbl[i]?)) (h : ws.all goodWord = true) : ∀ w ∈ ws, w ∈ GT := by
  intro w hw
  have h1 := List.all_eq_true.mp h w hw
  rw [hp] at hw
  obtain ⟨i, -, hi⟩ := List.mem_filterMap.mp hw
  exact List.mem_filter.mpr ⟨List.mem_of_getElem? hi, h1⟩
def nmL : List String := [RX0, RX1, RX2, RX3, RX4, RX5, RX6, RX7, RX8, RX9, RX10, RX11, RX12, RL, RJ0, RJ1, RJ9, RJ13]
def nmC (c : Nat) : String := nmL.getD c ""
def codeW (M : MI) : Cond := .code M.1 M.2.1 M.2.2.1 M.2.2.2.1
def M_X11_init : MI := (yX11_init, cX11_init, 2, none, 11, 4, 0)
def M_X1_init : MI := (yX1_init, cX1_init, 2, none, 1, 3, 0)
def M_X0_init : MI := (yX0_init, cX0_init, 2, none, 0, 0, 0)
def M_X3_init : MI := (yX3_init, cX3_init, 1, none, 3, 2, 0)
def M_X6_init : MI := (yX6_init, cX6_init, 2, none, 6, 1, 1)
def M_J9_max_7cf53 : MI := (yJ9_max_7cf53, cJ9_max_7cf53, 2, (some .int), 16, 0, 2)
def M_X10_init : MI := (yX10_init, cX10_init, 1, none, 10, 0, 0)
def M_X4_init : MI := (yX4_init, cX4_init, 1, none, 4, 2, 0)
def M_X9_init : MI := (yX9_init, cX9_init, 1, none, 9, 2, 0)
def M_X5_init : MI := (yX5_init, cX5_init, 1, none, 5, 0, 0)
def M_X2_init : MI := (yX2_init, cX2_init, 1, none, 2, 0, 0)
def M_X8_init : MI := (yX8_init, cX8_init, 1, none, 8, 0, 0)
def M_X11_knot : MI := (yX11_knot, cX11_knot, 5, (some .int), 11, 2, 3)
def M_X11_isKnot : MI := (yX11_isKnot, cX11_isKnot, 1, (some .boolean), 11, 0, 1)
def M_X11_isWithin : MI := (yX11_isWithin, cX11_isWithin, 3, (some .boolean), 11, 0, 3)
def M_X11_refuse : MI := (yX11_refuse, cX11_refuse, 3, (some .int), 11, 1, 1)
def M_X0_colourOf : MI := (yX0_colourOf, cX0_colourOf, 2, (some .int), 0, 1, 1)
def M_X0_wearOf : MI := (yX0_wearOf, cX0_wearOf, 2, (some .int), 0, 1, 1)
def M_X0_setColour : MI := (yX0_setColour, cX0_setColour, 3, none, 0, 1, 2)
def M_X0_setWear : MI := (yX0_setWear, cX0_setWear, 3, none, 0, 1, 2)
def M_J9_min_7cf53 : MI := (yJ9_min_7cf53, cJ9_min_7cf53, 2, (some .int), 16, 0, 2)
def M_X11_ofKnot : MI := (yX11_ofKnot, cX11_ofKnot, 3, (some .int), 11, 5, 2)
def M_X1_patternOf : MI := (yX1_patternOf, cX1_patternOf, 2, (some .int), 1, 4, 1)
def M_X1_given : MI := (yX1_given, cX1_given, 6, (some .int), 1, 3, 4)
def M_X3_isThere : MI := (yX3_isThere, cX3_isThere, 1, (some .boolean), 3, 0, 0)
def M_X3_workedOut : MI := (yX3_workedOut, cX3_workedOut, 7, (some .int), 3, 2, 3)
def M_X6_get : MI := (yX6_get, cX6_get, 2, (some .int), 6, 1, 1)
def M_X6_has : MI := (yX6_has, cX6_has, 2, (some .boolean), 6, 0, 1)
def M_X3_valueOf : MI := (yX3_valueOf, cX3_valueOf, 4, (some .int), 3, 0, 4)
def M_X3_joined : MI := (yX3_joined, cX3_joined, 3, (some .int), 3, 0, 3)
def M_J9_floorMod_7cf53 : MI := (yJ9_floorMod_7cf53, cJ9_floorMod_7cf53, 3, (some .int), 16, 0, 2)
def M_X1_worthOf : MI := (yX1_worthOf, cX1_worthOf, 2, (some .int), 1, 4, 1)
def M_X0_landOf : MI := (yX0_landOf, cX0_landOf, 2, (some .long), 0, 3, 1)
def M_X7_of : MI := (yX7_of, cX7_of, 1, (some .long), 7, 1, 1)
def M_X0_ofColour : MI := (yX0_ofColour, cX0_ofColour, 5, (some .long), 0, 0, 1)
def M_X7_grown : MI := (yX7_grown, cX7_grown, 9, (some .long), 7, 2, 2)
def M_X7_around : MI := (yX7_around, cX7_around, 2, (some .long), 7, 1, 1)
def M_X7_stepped : MI := (yX7_stepped, cX7_stepped, 3, (some .long), 7, 0, 2)
def M_J13_bitCount_95d88 : MI := (yJ13_bitCount_95d88, cJ13_bitCount_95d88, 2, (some .int), 17, 0, 1)
def M_X7_least : MI := (yX7_least, cX7_least, 2, (some .int), 7, 1, 1)
def M_X11_weave : MI := (yX11_weave, cX11_weave, 3, (some .int), 11, 6, 0)
def M_X1_countSlips : MI := (yX1_countSlips, cX1_countSlips, 4, (some .int), 1, 5, 0)
def M_X11_mend : MI := (yX11_mend, cX11_mend, 3, (some .int), 11, 5, 0)
def M_X0_countHoles : MI := (yX0_countHoles, cX0_countHoles, 1, (some .int), 0, 1, 0)
def M_X11_walker : MI := (yX11_walker, cX11_walker, 4, (some .int), 11, 2, 2)
def M_X11_isKindAndM : MI := (yX11_isKindAndM, cX11_isKindAndM, 1, (some .boolean), 11, 1, 1)
def M_X1_addWalker : MI := (yX1_addWalker, cX1_addWalker, 4, (some .int), 1, 1, 2)
def M_X11_ofWalker : MI := (yX11_ofWalker, cX11_ofWalker, 4, (some .int), 11, 4, 2)
def M_X1_walkerOf : MI := (yX1_walkerOf, cX1_walkerOf, 2, (some (.object "CarpetLands$Walker")), 1, 0, 1)
def M_X10_wearing : MI := (yX10_wearing, cX10_wearing, 1, (some .int), 10, 3, 0)
def M_X10_isOf : MI := (yX10_isOf, cX10_isOf, 4, (some .boolean), 10, 2, 1)
def M_X10_kindAbove : MI := (yX10_kindAbove, cX10_kindAbove, 1, (some .int), 10, 1, 1)
def M_X10_wouldEat : MI := (yX10_wouldEat, cX10_wouldEat, 2, (some .boolean), 10, 2, 1)
def M_X11_put : MI := (yX11_put, cX11_put, 6, (some .int), 11, 2, 3)
def M_X11_become : MI := (yX11_become, cX11_become, 5, (some .int), 11, 2, 2)
def M_X11_as : MI := (yX11_as, cX11_as, 4, (some .int), 11, 3, 2)
def M_X11_feed : MI := (yX11_feed, cX11_feed, 5, (some .int), 11, 2, 2)
def M_X6_add : MI := (yX6_add, cX6_add, 2, (some .boolean), 6, 0, 1)
def M_X11_text : MI := (yX11_text, cX11_text, 3, (some .int), 11, 8, 1)
def M_X11_isUse : MI := (yX11_isUse, cX11_isUse, 1, (some .boolean), 11, 0, 1)
def M_X4_faultOf : MI := (yX4_faultOf, cX4_faultOf, 3, (some .int), 4, 7, 2)
def M_X6_clear : MI := (yX6_clear, cX6_clear, 1, none, 6, 0, 0)
def M_X4_readLevel : MI := (yX4_readLevel, cX4_readLevel, 6, none, 4, 6, 2)
def M_X4_readFactor : MI := (yX4_readFactor, cX4_readFactor, 2, none, 4, 6, 1)
def M_X4_isAhead : MI := (yX4_isAhead, cX4_isAhead, 2, (some .boolean), 4, 4, 1)
def M_J0_indexOf_0f7a4 : MI := (yJ0_indexOf_0f7a4, cJ0_indexOf_0f7a4, 2, (some .int), 14, 3, 1)
def M_J0_indexOf_7cf53 : MI := (yJ0_indexOf_7cf53, cJ0_indexOf_7cf53, 3, (some .int), 14, 2, 2)
def M_J0_isLatin1_aae02 : MI := (yJ0_isLatin1_aae02, cJ0_isLatin1_aae02, 1, (some .boolean), 14, 0, 0)
def M_J0_length_8abf5 : MI := (yJ0_length_8abf5, cJ0_length_8abf5, 1, (some .int), 14, 1, 0)
def M_J0_coder_7d493 : MI := (yJ0_coder_7d493, cJ0_coder_7d493, 1, (some .byte), 14, 0, 0)
def M_J1_indexOf_4cfef : MI := (yJ1_indexOf_4cfef, cJ1_indexOf_4cfef, 4, (some .int), 15, 1, 4)
def M_J1_canEncode_9a6ad : MI := (yJ1_canEncode_9a6ad, cJ1_canEncode_9a6ad, 1, (some .boolean), 15, 0, 1)
def M_J1_indexOfChar_4cfef : MI := (yJ1_indexOfChar_4cfef, cJ1_indexOfChar_4cfef, 6, (some .int), 15, 0, 4)
def M_J0_checkBoundsBeginEnd_23922 : MI := (yJ0_checkBoundsBeginEnd_23922, cJ0_checkBoundsBeginEnd_23922, 3, none, 14, 0, 3)
def M_X4_readNumber : MI := (yX4_readNumber, cX4_readNumber, 3, none, 4, 5, 0)
def M_X4_ahead : MI := (yX4_ahead, cX4_ahead, 1, (some .int), 4, 2, 0)
def M_X4_close : MI := (yX4_close, cX4_close, 1, none, 4, 3, 0)
def M_X4_operatorsOf : MI := (yX4_operatorsOf, cX4_operatorsOf, 1, (some (.object "java/lang/String")), 4, 0, 1)
def M_X1_lawOf : MI := (yX1_lawOf, cX1_lawOf, 2, (some (.object "CarpetLands$Law")), 1, 0, 1)
def M_X3_learn : MI := (yX3_learn, cX3_learn, 2, none, 3, 3, 1)
def M_X6_copyFrom : MI := (yX6_copyFrom, cX6_copyFrom, 3, none, 6, 2, 1)
def M_X11_law : MI := (yX11_law, cX11_law, 5, (some .int), 11, 4, 4)
def M_X11_days : MI := (yX11_days, cX11_days, 3, (some .int), 11, 5, 1)
def M_X1_passDay : MI := (yX1_passDay, cX1_passDay, 3, none, 1, 4, 0)
def M_X10_step : MI := (yX10_step, cX10_step, 3, none, 10, 3, 2)
def M_X10_stepAsCat : MI := (yX10_stepAsCat, cX10_stepAsCat, 6, none, 10, 2, 1)
def M_X10_turned : MI := (yX10_turned, cX10_turned, 2, (some .int), 10, 0, 1)
def M_X7_beside : MI := (yX7_beside, cX7_beside, 4, (some .int), 7, 0, 2)
def M_X10_go : MI := (yX10_go, cX10_go, 3, none, 10, 1, 1)
def M_X10_stepAsMoth : MI := (yX10_stepAsMoth, cX10_stepAsMoth, 6, none, 10, 2, 1)
def M_X10_stepAsWalker : MI := (yX10_stepAsWalker, cX10_stepAsWalker, 2, none, 10, 2, 0)
def M_X11_loose : MI := (yX11_loose, cX11_loose, 3, (some .int), 11, 6, 1)
def M_X1_passLooseDay : MI := (yX1_passLooseDay, cX1_passLooseDay, 3, none, 1, 5, 0)
def M_X1_draw : MI := (yX1_draw, cX1_draw, 1, (some .int), 1, 0, 0)
def M_X11_lands : MI := (yX11_lands, cX11_lands, 4, (some .int), 11, 4, 1)
def M_X0_countLands : MI := (yX0_countLands, cX0_countLands, 6, (some .int), 0, 3, 1)
def M_X11_greatest : MI := (yX11_greatest, cX11_greatest, 4, (some .int), 11, 5, 1)
def M_X0_greatestLand : MI := (yX0_greatestLand, cX0_greatestLand, 8, (some .long), 0, 4, 0)
def M_X7_has : MI := (yX7_has, cX7_has, 3, (some .boolean), 7, 2, 2)
def M_X11_nextTo : MI := (yX11_nextTo, cX11_nextTo, 2, (some .int), 11, 5, 1)
def M_X0_coloursBeside : MI := (yX0_coloursBeside, cX0_coloursBeside, 4, (some .int), 0, 4, 1)
def M_X0_coloursIn : MI := (yX0_coloursIn, cX0_coloursIn, 5, (some .int), 0, 3, 1)
def M_X11_frontier : MI := (yX11_frontier, cX11_frontier, 3, (some .int), 11, 2, 2)
def M_X11_isColour : MI := (yX11_isColour, cX11_isColour, 1, (some .boolean), 11, 1, 1)
def M_X0_countPairs : MI := (yX0_countPairs, cX0_countPairs, 9, (some .int), 0, 1, 2)
def M_X11_slips : MI := (yX11_slips, cX11_slips, 1, (some .int), 11, 6, 0)
def M_X11_mends : MI := (yX11_mends, cX11_mends, 2, (some .int), 11, 6, 1)
def M_X1_countMends : MI := (yX1_countMends, cX1_countMends, 4, (some .int), 1, 5, 1)
def M_X11_again : MI := (yX11_again, cX11_again, 2, (some .int), 11, 4, 1)
def M_X0_leastPeriod : MI := (yX0_leastPeriod, cX0_leastPeriod, 3, (some .int), 0, 3, 1)
def M_X0_comesAgain : MI := (yX0_comesAgain, cX0_comesAgain, 8, (some .boolean), 0, 2, 2)
def M_X0_meets : MI := (yX0_meets, cX0_meets, 2, (some .boolean), 0, 0, 2)
def M_X11_stays : MI := (yX11_stays, cX11_stays, 3, (some .int), 11, 3, 0)
def M_X0_staysBy : MI := (yX0_staysBy, cX0_staysBy, 3, (some .boolean), 0, 2, 1)
def M_X0_comesTo : MI := (yX0_comesTo, cX0_comesTo, 6, (some .int), 0, 0, 2)
def M_X11_road : MI := (yX11_road, cX11_road, 7, (some .int), 11, 4, 3)
def M_X5_fewestSteps : MI := (yX5_fewestSteps, cX5_fewestSteps, 6, (some .int), 5, 3, 3)
def M_X5_goOn : MI := (yX5_goOn, cX5_goOn, 7, none, 5, 1, 1)
def M_X11_fits : MI := (yX11_fits, cX11_fits, 5, (some .int), 11, 3, 3)
def M_X11_sheetOf : MI := (yX11_sheetOf, cX11_sheetOf, 2, (some (.object "CarpetLands$Sheet")), 11, 1, 1)
def M_X8_isCarpet : MI := (yX8_isCarpet, cX8_isCarpet, 2, (some .boolean), 8, 2, 0)
def M_X8_isMissing : MI := (yX8_isMissing, cX8_isMissing, 1, (some .boolean), 8, 0, 0)
def M_X0_fitsBy : MI := (yX0_fitsBy, cX0_fitsBy, 8, (some .boolean), 0, 2, 3)
def M_X8_get : MI := (yX8_get, cX8_get, 2, (some .int), 8, 1, 1)
def M_X8_has : MI := (yX8_has, cX8_has, 2, (some .boolean), 8, 0, 1)
def M_X11_layings : MI := (yX11_layings, cX11_layings, 5, (some .int), 11, 4, 2)
def M_X0_countLayings : MI := (yX0_countLayings, cX0_countLayings, 5, (some .int), 0, 3, 1)
def M_X0_bestLaying : MI := (yX0_bestLaying, cX0_bestLaying, 7, (some .int), 0, 3, 1)
def M_J9_abs_0f7a4 : MI := (yJ9_abs_0f7a4, cJ9_abs_0f7a4, 1, (some .int), 16, 0, 1)
def M_X11_cut : MI := (yX11_cut, cX11_cut, 8, (some .int), 11, 6, 1)
def M_X1_worthOfColumn : MI := (yX1_worthOfColumn, cX1_worthOfColumn, 4, (some .int), 1, 5, 1)
def M_X11_dyed : MI := (yX11_dyed, cX11_dyed, 4, (some .int), 11, 5, 3)
def M_X2_tryAll : MI := (yX2_tryAll, cX2_tryAll, 5, none, 2, 4, 3)
def M_X2_flood : MI := (yX2_flood, cX2_flood, 6, none, 2, 3, 3)
def M_X2_keepIfBetter : MI := (yX2_keepIfBetter, cX2_keepIfBetter, 2, none, 2, 0, 1)
def M_X2_colourOfFlood : MI := (yX2_colourOfFlood, cX2_colourOfFlood, 2, (some .int), 2, 1, 1)
def M_X11_then : MI := (yX11_then, cX11_then, 5, (some .int), 11, 5, 3)
def M_X1_copyFrom : MI := (yX1_copyFrom, cX1_copyFrom, 3, none, 1, 4, 1)
def M_X0_copyFrom : MI := (yX0_copyFrom, cX0_copyFrom, 2, none, 0, 0, 1)
def M_X10_copyFrom : MI := (yX10_copyFrom, cX10_copyFrom, 2, none, 10, 0, 1)
def M_X11_seed : MI := (yX11_seed, cX11_seed, 3, (some .int), 11, 0, 1)
def M_X11_voice : MI := (yX11_voice, cX11_voice, 5, (some .int), 11, 5, 3)
def M_X9_speak : MI := (yX9_speak, cX9_speak, 5, (some .int), 9, 4, 4)
def M_X9_say : MI := (yX9_say, cX9_say, 7, (some .int), 9, 3, 4)
def M_X9_bodyOf : MI := (yX9_bodyOf, cX9_bodyOf, 6, (some .int), 9, 2, 2)
def M_X11_trace : MI := (yX11_trace, cX11_trace, 2, (some .int), 11, 2, 1)
def M_X11_sheet : MI := (yX11_sheet, cX11_sheet, 5, (some .int), 11, 2, 3)
def M_X8_make : MI := (yX8_make, cX8_make, 4, none, 8, 0, 2)
def M_X11_write : MI := (yX11_write, cX11_write, 5, (some .int), 11, 2, 3)
def M_X8_set : MI := (yX8_set, cX8_set, 3, none, 8, 1, 2)
def M_X11_move : MI := (yX11_move, cX11_move, 8, (some .int), 11, 2, 5)
def M_X8_hasAll : MI := (yX8_hasAll, cX8_hasAll, 3, (some .boolean), 8, 0, 2)
def M_X11_colours : MI := (yX11_colours, cX11_colours, 4, (some .int), 11, 2, 1)
def M_X11_judge : MI := (yX11_judge, cX11_judge, 4, (some .int), 11, 2, 1)
def M_X11_image : MI := (yX11_image, cX11_image, 1, (some .int), 11, 5, 0)
def M_X11_restore : MI := (yX11_restore, cX11_restore, 1, (some .int), 11, 5, 0)
def M_X11_tell : MI := (yX11_tell, cX11_tell, 2, (some .int), 11, 2, 1)
def M_X11_check : MI := (yX11_check, cX11_check, 2, (some .int), 11, 5, 0)
def M_X11_count : MI := (yX11_count, cX11_count, 2, (some .int), 11, 4, 1)
def M_X0_wearOfAll : MI := (yX0_wearOfAll, cX0_wearOfAll, 3, (some .int), 0, 0, 0)
def M_X11_told : MI := (yX11_told, cX11_told, 2, (some .int), 11, 2, 1)
def M_X12_init : MI := (yX12_init, cX12_init, 2, none, 12, 0, 0)
def M_X12_feed : MI := (yX12_feed, cX12_feed, 5, (some .int), 12, 1, 2)
def M_X12_in : MI := (yX12_in, cX12_in, 6, (some .boolean), 12, 0, 3)
def M_X12_finds : MI := (yX12_finds, cX12_finds, 2, (some .int), 12, 0, 1)
def M_X12_text : MI := (yX12_text, cX12_text, 5, (some .int), 12, 4, 1)
def M_X12_worked : MI := (yX12_worked, cX12_worked, 5, (some .int), 12, 3, 3)
def M_X12_either : MI := (yX12_either, cX12_either, 3, (some .int), 12, 2, 0)
def M_X12_both : MI := (yX12_both, cX12_both, 3, (some .int), 12, 2, 0)
def M_X12_compared : MI := (yX12_compared, cX12_compared, 4, (some .int), 12, 2, 0)
def M_X12_sum : MI := (yX12_sum, cX12_sum, 4, (some .int), 12, 2, 0)
def M_X12_product : MI := (yX12_product, cX12_product, 4, (some .int), 12, 2, 0)
def M_X12_unit : MI := (yX12_unit, cX12_unit, 5, (some .int), 12, 2, 0)
def M_X12_here : MI := (yX12_here, cX12_here, 1, (some .int), 12, 0, 0)
def M_X12_wrong : MI := (yX12_wrong, cX12_wrong, 1, (some .int), 12, 0, 0)
def M_X12_takes : MI := (yX12_takes, cX12_takes, 2, (some .boolean), 12, 1, 1)
def M_X12_nameOf : MI := (yX12_nameOf, cX12_nameOf, 2, (some .int), 12, 0, 1)
def M_X12_law : MI := (yX12_law, cX12_law, 5, (some .int), 12, 5, 4)
def M_X12_textGives : MI := (yX12_textGives, cX12_textGives, 7, (some .int), 12, 4, 4)
def M_X12_held : MI := (yX12_held, cX12_held, 3, (some .int), 12, 0, 3)
def M_X12_knot : MI := (yX12_knot, cX12_knot, 6, (some .int), 12, 2, 3)
def M_X12_isKnot : MI := (yX12_isKnot, cX12_isKnot, 1, (some .boolean), 12, 1, 1)
def M_X12_ofKnot : MI := (yX12_ofKnot, cX12_ofKnot, 3, (some .int), 12, 6, 2)
def M_X12_spreads : MI := (yX12_spreads, cX12_spreads, 5, none, 12, 2, 1)
def M_X12_beside : MI := (yX12_beside, cX12_beside, 4, (some .int), 12, 1, 2)
def M_X12_patternOf : MI := (yX12_patternOf, cX12_patternOf, 2, (some .int), 12, 5, 1)
def M_X12_worthOf : MI := (yX12_worthOf, cX12_worthOf, 2, (some .int), 12, 5, 1)
def M_X12_leastSpread : MI := (yX12_leastSpread, cX12_leastSpread, 2, (some .int), 12, 0, 0)
def M_X12_slips : MI := (yX12_slips, cX12_slips, 3, (some .int), 12, 6, 0)
def M_X12_weave : MI := (yX12_weave, cX12_weave, 3, (some .int), 12, 7, 0)
def M_X12_mend : MI := (yX12_mend, cX12_mend, 3, (some .int), 12, 6, 0)
def M_X12_holes : MI := (yX12_holes, cX12_holes, 3, (some .int), 12, 0, 0)
def M_X12_mends : MI := (yX12_mends, cX12_mends, 4, (some .int), 12, 6, 1)
def M_X12_walker : MI := (yX12_walker, cX12_walker, 4, (some .int), 12, 2, 2)
def M_X12_sets : MI := (yX12_sets, cX12_sets, 4, none, 12, 0, 3)
def M_X12_ofWalker : MI := (yX12_ofWalker, cX12_ofWalker, 3, (some .int), 12, 2, 2)
def M_X12_isWalker : MI := (yX12_isWalker, cX12_isWalker, 2, (some .boolean), 12, 1, 1)
def M_X12_of : MI := (yX12_of, cX12_of, 3, (some .int), 12, 0, 2)
def M_X12_wearsOf : MI := (yX12_wearsOf, cX12_wearsOf, 2, (some .int), 12, 1, 1)
def M_X12_eats : MI := (yX12_eats, cX12_eats, 3, (some .boolean), 12, 1, 1)
def M_X12_put : MI := (yX12_put, cX12_put, 5, (some .int), 12, 2, 3)
def M_X12_become : MI := (yX12_become, cX12_become, 4, (some .int), 12, 2, 2)
def M_X12_as : MI := (yX12_as, cX12_as, 4, (some .int), 12, 2, 2)
def M_X12_above : MI := (yX12_above, cX12_above, 1, (some .int), 12, 0, 1)
def M_X12_days : MI := (yX12_days, cX12_days, 3, (some .int), 12, 6, 1)
def M_X12_dayGoes : MI := (yX12_dayGoes, cX12_dayGoes, 4, none, 12, 5, 0)
def M_X12_steps : MI := (yX12_steps, cX12_steps, 2, none, 12, 4, 1)
def M_X12_catStep : MI := (yX12_catStep, cX12_catStep, 7, none, 12, 3, 1)
def M_X12_goes : MI := (yX12_goes, cX12_goes, 3, none, 12, 2, 2)
def M_X12_plainStep : MI := (yX12_plainStep, cX12_plainStep, 3, none, 12, 3, 1)
def M_X12_mothStep : MI := (yX12_mothStep, cX12_mothStep, 7, none, 12, 3, 1)
def M_X12_loose : MI := (yX12_loose, cX12_loose, 4, (some .int), 12, 6, 1)
def M_X12_drawn : MI := (yX12_drawn, cX12_drawn, 1, (some .int), 12, 0, 0)
def M_X12_then : MI := (yX12_then, cX12_then, 5, (some .int), 12, 6, 3)
def M_X12_keepAside : MI := (yX12_keepAside, cX12_keepAside, 2, none, 12, 0, 0)
def M_X12_putBack : MI := (yX12_putBack, cX12_putBack, 2, none, 12, 0, 0)
def M_X12_lands : MI := (yX12_lands, cX12_lands, 2, (some .int), 12, 4, 1)
def M_X12_findLands : MI := (yX12_findLands, cX12_findLands, 4, none, 12, 3, 1)
def M_X12_greatest : MI := (yX12_greatest, cX12_greatest, 2, (some .int), 12, 4, 1)
def M_X12_nextTo : MI := (yX12_nextTo, cX12_nextTo, 6, (some .int), 12, 3, 1)
def M_X12_frontier : MI := (yX12_frontier, cX12_frontier, 7, (some .int), 12, 2, 2)
def M_X12_again : MI := (yX12_again, cX12_again, 3, (some .int), 12, 2, 1)
def M_X12_comesBy : MI := (yX12_comesBy, cX12_comesBy, 7, (some .boolean), 12, 1, 2)
def M_X12_agree : MI := (yX12_agree, cX12_agree, 2, (some .boolean), 12, 0, 2)
def M_X12_stays : MI := (yX12_stays, cX12_stays, 5, (some .int), 12, 1, 0)
def M_X12_turned : MI := (yX12_turned, cX12_turned, 6, (some .int), 12, 0, 2)
def M_X12_road : MI := (yX12_road, cX12_road, 11, (some .int), 12, 2, 3)
def M_X12_isOf : MI := (yX12_isOf, cX12_isOf, 3, (some .boolean), 12, 0, 2)
def M_X12_fits : MI := (yX12_fits, cX12_fits, 4, (some .int), 12, 2, 3)
def M_X12_isSheet : MI := (yX12_isSheet, cX12_isSheet, 1, (some .boolean), 12, 1, 1)
def M_X12_isCarpet : MI := (yX12_isCarpet, cX12_isCarpet, 4, (some .boolean), 12, 1, 1)
def M_X12_isFit : MI := (yX12_isFit, cX12_isFit, 9, (some .boolean), 12, 1, 3)
def M_X12_layings : MI := (yX12_layings, cX12_layings, 10, (some .int), 12, 2, 2)
def M_X12_cut : MI := (yX12_cut, cX12_cut, 7, (some .int), 12, 6, 1)
def M_X12_dyed : MI := (yX12_dyed, cX12_dyed, 10, (some .int), 12, 4, 3)
def M_X12_floods : MI := (yX12_floods, cX12_floods, 4, none, 12, 3, 2)
def M_X12_seed : MI := (yX12_seed, cX12_seed, 3, (some .int), 12, 0, 1)
def M_X12_voice : MI := (yX12_voice, cX12_voice, 5, (some .int), 12, 4, 3)
def M_X12_own : MI := (yX12_own, cX12_own, 1, (some .int), 12, 1, 0)
def M_X12_walksBy : MI := (yX12_walksBy, cX12_walksBy, 3, (some .int), 12, 1, 2)
def M_X12_ran : MI := (yX12_ran, cX12_ran, 2, none, 12, 0, 1)
def M_X12_wearsBy : MI := (yX12_wearsBy, cX12_wearsBy, 4, (some .int), 12, 2, 2)
def M_X12_eatsBy : MI := (yX12_eatsBy, cX12_eatsBy, 3, (some .int), 12, 1, 2)
def M_X12_tellsBy : MI := (yX12_tellsBy, cX12_tellsBy, 4, (some .int), 12, 3, 2)
def M_X12_trace : MI := (yX12_trace, cX12_trace, 2, (some .int), 12, 1, 1)
def M_X12_sheet : MI := (yX12_sheet, cX12_sheet, 5, (some .int), 12, 2, 3)
def M_X12_write : MI := (yX12_write, cX12_write, 4, (some .int), 12, 2, 3)
def M_X12_move : MI := (yX12_move, cX12_move, 7, (some .int), 12, 2, 5)
def M_X12_colours : MI := (yX12_colours, cX12_colours, 3, (some .int), 12, 2, 1)
def M_X12_judge : MI := (yX12_judge, cX12_judge, 3, (some .int), 12, 2, 1)
def M_X12_image : MI := (yX12_image, cX12_image, 2, (some .int), 12, 0, 0)
def M_X12_restore : MI := (yX12_restore, cX12_restore, 2, (some .int), 12, 1, 0)
def M_X12_tell : MI := (yX12_tell, cX12_tell, 2, (some .int), 12, 1, 1)
def M_X12_check : MI := (yX12_check, cX12_check, 4, (some .int), 12, 6, 0)
def M_X12_count : MI := (yX12_count, cX12_count, 4, (some .int), 12, 1, 1)
def M_X12_told : MI := (yX12_told, cX12_told, 2, (some .int), 12, 1, 1)
def M_L_law : MI := (yL_law, cL_law, 4, some .boolean, 13, 9, 1)
abbrev MTe : Type := Nat × Nat × Nat × MI
def wdM (q : MTe) : List Cond := match q.2.2.1 with
  | 0 => [.methodLink (nmC q.1) q.2.1 q.2.2.2.1, .static q.2.2.2.1, .initialized q.2.2.2.1.cls, codeW q.2.2.2]
  | 1 => [.static q.2.2.2.1, .initialized q.2.2.2.1.cls, codeW q.2.2.2]
  | 2 => [.methodLink (nmC q.1) q.2.1 q.2.2.2.1, .instanceMethod q.2.2.2.1, .selects q.2.2.2.1.cls q.2.2.2.1 q.2.2.2.1, .initialized q.2.2.2.1.cls, codeW q.2.2.2]
  | 3 => [.methodLink (nmC q.1) q.2.1 q.2.2.2.1, .instanceMethod q.2.2.2.1, .initialized q.2.2.2.1.cls, codeW q.2.2.2]
  | 4 => [.instanceMethod q.2.2.2.1, .initialized q.2.2.2.1.cls, codeW q.2.2.2]
  | 6 => [.methodLink (nmC q.1) q.2.1 objectInit, .instanceMethod objectInit, .code objectInit ⟨#[0xb1]⟩ 1 none]
  | _ => [.methodLink (nmC q.1) q.2.1 arraycopyName, .native arraycopyName, .static arraycopyName, .initialized "java/lang/System"]
def okMI (M : MI) : Bool := plainFor M.1 && decide (M.1.cls ≠ "java/lang/invoke/MethodHandle") && decide (M.1.cls ≠ "java/lang/invoke/VarHandle") && decide ((parseMethodDescriptor M.1.desc).map (fun d => d.parameters.length) = some M.2.2.2.2.2.2) && decide (M.2.2.1 ≤ 21) && decide (nmC M.2.2.2.2.1 = M.1.cls) && decide (M.2.2.2.2.2.1 ≤ 30)
def okM (q : MTe) : Bool := okMI q.2.2.2 && (match q.2.2.1 with
  | 3 => decide (q.2.2.2.1.name = "<init>") && decide (q.2.2.2.2.2.2.1 = none)
  | 4 => decide (q.2.2.2.1.name = "<init>") && decide (q.2.2.2.2.2.2.1 = none)
  | _ => true)
def MT0 : List MTe := [(0, 3, 6, M_X0_init), (0, 18, 7, M_X0_init), (0, 24, 1, M_X11_isKnot), (0, 28, 0, M_J9_min_7cf53), (0, 34, 2, M_X0_ofColour), (0, 38, 0, M_J13_bitCount_95d88), (0, 44, 0, M_X7_of), (0, 49, 2, M_X0_colourOf), (0, 53, 0, M_X7_grown), (0, 59, 0, M_X7_has), (0, 63, 2, M_X0_landOf), (0, 66, 0, M_X7_around), (0, 70, 2, M_X0_coloursIn), (0, 73, 0, M_X7_stepped), (0, 77, 2, M_X0_comesAgain), (0, 81, 0, M_X0_meets)]
set_option maxRecDepth 20000 in
theorem mt0_0 : ∀ w ∈ wdM (0, 3, 6, M_X0_init), w ∈ GT := in_GT [97, 84, 85] (by decide +kernel) (by decide +kernel)
set_option maxRecDepth 20000 in
theorem mt0_1 : ∀ w ∈ wdM (0, 18, 7, M_X0_init), w ∈ GT := in_GT [946, 927, 926, 77] (by decide +kernel) (by decide +kernel)
set_option maxRecDepth 20000 in
theorem mt0_2 : ∀ w ∈ wdM (0, 24, 1, M_X11_isKnot), w ∈ GT := in_GT [346, 57, 347] (by decide +kernel) (by decide +kernel)
set_option maxRecDepth 20000 in
theorem mt0_3 : ∀ w ∈ wdM (0, 28, 0, M_J9_min_7cf53), w ∈ GT := in_GT [374, 375, 62, 376] (by decide +kernel) (by decide +kernel)
set_option maxRecDepth 20000 in
theorem mt0_4 : ∀ w ∈ wdM (0, 34, 2, M_X0_ofColour), w ∈ GT := in_GT [431, 432, 433, 59, 434] (by decide +kernel) (by decide +kernel)
set_option maxRecDepth 20000 in
theorem mt0_5 : ∀ w ∈ wdM (0, 38, 0, M_J13_bitCount_95d88), w ∈ GT := in_GT [474, 448, 71, 449] (by decide +kernel) (by decide +kernel)
set_option maxRecDepth 20000 in
theorem mt0_6 : ∀ w ∈ wdM (0, 44, 0, M_X7_of), w ∈ GT := in_GT [426, 427, 70, 428] (by decide +kernel) (by decide +kernel)
set_option maxRecDepth 20000 in
theorem mt0_7 : ∀ w ∈ wdM (0, 49, 2, M_X0_colourOf), w ∈ GT := in_GT [430, 358, 359, 59, 360] (by decide +kernel) (by decide +kernel)
set_option maxRecDepth 20000 in
theorem mt0_8 : ∀ w ∈ wdM (0, 53, 0, M_X7_grown), w ∈ GT := in_GT [435, 436, 70, 437] (by decide +kernel) (by decide +kernel)
set_option maxRecDepth 20000 in
theorem mt0_9 : ∀ w ∈ wdM (0, 59, 0, M_X7_has), w ∈ GT := in_GT [764, 765, 70, 766] (by decide +kernel) (by decide +kernel)
set_option maxRecDepth 20000 in
theorem mt0_10 : ∀ w ∈ wdM (0, 63, 2, M_X0_landOf), w ∈ GT := in_GT [768, 423, 424, 59, 425] (by decide +kernel) (by decide +kernel)
set_option maxRecDepth 20000 in
theorem mt0_11 : ∀ w ∈ wdM (0, 66, 0, M_X7_around), w ∈ GT := in_GT [778, 439, 70, 440] (by decide +kernel) (by decide +kernel)
set_option maxRecDepth 20000 in
theorem mt0_12 : ∀ w ∈ wdM (0, 70, 2, M_X0_coloursIn), w ∈ GT := in_GT [779, 780, 781, 59, 782] (by decide +kernel) (by decide +kernel)
set_option maxRecDepth 20000 in
theorem mt0_13 : ∀ w ∈ wdM (0, 73, 0, M_X7_stepped), w ∈ GT := in_GT [794, 442, 70, 443] (by decide +kernel) (by decide +kernel)
set_option maxRecDepth 20000 in
theorem mt0_14 : ∀ w ∈ wdM (0, 77, 2, M_X0_comesAgain), w ∈ GT := in_GT [815, 816, 817, 59, 818] (by decide +kernel) (by decide +kernel)
set_option maxRecDepth 20000 in
theorem mt0_15 : ∀ w ∈ wdM (0, 81, 0, M_X0_meets), w ∈ GT := in_GT [819, 820, 59, 821] (by decide +kernel) (by decide +kernel)
theorem MT0_w : ∀ q ∈ MT0, ∀ w ∈ wdM q, w ∈ GT := List.forall_mem_cons.mpr ⟨mt0_0, List.forall_mem_cons.mpr ⟨mt0_1, List.forall_mem_cons.mpr ⟨mt0_2, List.forall_mem_cons.mpr ⟨mt0_3, List.forall_mem_cons.mpr ⟨mt0_4, List.forall_mem_cons.mpr ⟨mt0_5, List.forall_mem_cons.mpr ⟨mt0_6, List.forall_mem_cons.mpr ⟨mt0_7, List.forall_mem_cons.mpr ⟨mt0_8, List.forall_mem_cons.mpr ⟨mt0_9, List.forall_mem_cons.mpr ⟨mt0_10, List.forall_mem_cons.mpr ⟨mt0_11, List.forall_mem_cons.mpr ⟨mt0_12, List.forall_mem_cons.mpr ⟨mt0_13, List.forall_mem_cons.mpr ⟨mt0_14, List.forall_mem_cons.mpr ⟨mt0_15, fun _ h => absurd h List.not_mem_nil⟩⟩⟩⟩⟩⟩⟩⟩⟩⟩⟩⟩⟩⟩⟩⟩
theorem MT0_k : ∀ q ∈ MT0, okM q = true := by decide +kernel
def MT1 : List MTe := [(0, 85, 0, M_X0_comesTo), (0, 88, 1, M_X11_isWithin), (0, 92, 2, M_X8_get), (0, 97, 2, M_X0_fitsBy), (0, 101, 0, M_J9_abs_0f7a4), (1, 3, 6, M_X0_init), (1, 11, 3, M_X0_init), (1, 26, 4, M_X3_init), (1, 36, 3, M_X6_init), (1, 56, 4, M_X10_init), (1, 57, 2, M_X0_copyFrom), (1, 61, 2, M_X10_copyFrom), (1, 67, 2, M_X3_learn), (1, 71, 2, M_X6_copyFrom), (1, 73, 1, M_X11_isWithin), (1, 89, 2, M_X3_isThere)]
set_option maxRecDepth 20000 in
theorem mt1_0 : ∀ w ∈ wdM (0, 85, 0, M_X0_comesTo), w ∈ GT := in_GT [830, 831, 59, 832] (by decide +kernel) (by decide +kernel)
set_option maxRecDepth 20000 in
theorem mt1_1 : ∀ w ∈ wdM (0, 88, 1, M_X11_isWithin), w ∈ GT := in_GT [349, 57, 350] (by decide +kernel) (by decide +kernel)
set_option maxRecDepth 20000 in
theorem mt1_2 : ∀ w ∈ wdM (0, 92, 2, M_X8_get), w ∈ GT := in_GT [872, 873, 874, 68, 875] (by decide +kernel) (by decide +kernel)
set_option maxRecDepth 20000 in
theorem mt1_3 : ∀ w ∈ wdM (0, 97, 2, M_X0_fitsBy), w ∈ GT := in_GT [888, 868, 869, 59, 870] (by decide +kernel) (by decide +kernel)
set_option maxRecDepth 20000 in
theorem mt1_4 : ∀ w ∈ wdM (0, 101, 0, M_J9_abs_0f7a4), w ∈ GT := in_GT [893, 894, 62, 895] (by decide +kernel) (by decide +kernel)
set_option maxRecDepth 20000 in
theorem mt1_5 : ∀ w ∈ wdM (1, 3, 6, M_X0_init), w ∈ GT := in_GT [91, 84, 85] (by decide +kernel) (by decide +kernel)
set_option maxRecDepth 20000 in
theorem mt1_6 : ∀ w ∈ wdM (1, 11, 3, M_X0_init), w ∈ GT := in_GT [94, 95, 59, 96] (by decide +kernel) (by decide +kernel)
set_option maxRecDepth 20000 in
theorem mt1_7 : ∀ w ∈ wdM (1, 26, 4, M_X3_init), w ∈ GT := in_GT [111, 60, 112] (by decide +kernel) (by decide +kernel)
set_option maxRecDepth 20000 in
theorem mt1_8 : ∀ w ∈ wdM (1, 36, 3, M_X6_init), w ∈ GT := in_GT [142, 117, 61, 118] (by decide +kernel) (by decide +kernel)
set_option maxRecDepth 20000 in
theorem mt1_9 : ∀ w ∈ wdM (1, 56, 4, M_X10_init), w ∈ GT := in_GT [145, 63, 146] (by decide +kernel) (by decide +kernel)
set_option maxRecDepth 20000 in
theorem mt1_10 : ∀ w ∈ wdM (1, 57, 2, M_X0_copyFrom), w ∈ GT := in_GT [942, 943, 944, 59, 945] (by decide +kernel) (by decide +kernel)
set_option maxRecDepth 20000 in
theorem mt1_11 : ∀ w ∈ wdM (1, 61, 2, M_X10_copyFrom), w ∈ GT := in_GT [947, 948, 949, 63, 950] (by decide +kernel) (by decide +kernel)
set_option maxRecDepth 20000 in
theorem mt1_12 : ∀ w ∈ wdM (1, 67, 2, M_X3_learn), w ∈ GT := in_GT [951, 677, 678, 60, 679] (by decide +kernel) (by decide +kernel)
set_option maxRecDepth 20000 in
theorem mt1_13 : ∀ w ∈ wdM (1, 71, 2, M_X6_copyFrom), w ∈ GT := in_GT [952, 681, 682, 61, 683] (by decide +kernel) (by decide +kernel)
set_option maxRecDepth 20000 in
theorem mt1_14 : ∀ w ∈ wdM (1, 73, 1, M_X11_isWithin), w ∈ GT := in_GT [349, 57, 350] (by decide +kernel) (by decide +kernel)
set_option maxRecDepth 20000 in
theorem mt1_15 : ∀ w ∈ wdM (1, 89, 2, M_X3_isThere), w ∈ GT := in_GT [389, 390, 391, 60, 392] (by decide +kernel) (by decide +kernel)
theorem MT1_w : ∀ q ∈ MT1, ∀ w ∈ wdM q, w ∈ GT := List.forall_mem_cons.mpr ⟨mt1_0, List.forall_mem_cons.mpr ⟨mt1_1, List.forall_mem_cons.mpr ⟨mt1_2, List.forall_mem_cons.mpr ⟨mt1_3, List.forall_mem_cons.mpr ⟨mt1_4, List.forall_mem_cons.mpr ⟨mt1_5, List.forall_mem_cons.mpr ⟨mt1_6, List.forall_mem_cons.mpr ⟨mt1_7, List.forall_mem_cons.mpr ⟨mt1_8, List.forall_mem_cons.mpr ⟨mt1_9, List.forall_mem_cons.mpr ⟨mt1_10, List.forall_mem_cons.mpr ⟨mt1_11, List.forall_mem_cons.mpr ⟨mt1_12, List.forall_mem_cons.mpr ⟨mt1_13, List.forall_mem_cons.mpr ⟨mt1_14, List.forall_mem_cons.mpr ⟨mt1_15, fun _ h => absurd h List.not_mem_nil⟩⟩⟩⟩⟩⟩⟩⟩⟩⟩⟩⟩⟩⟩⟩⟩
theorem MT1_k : ∀ q ∈ MT1, okM q = true := by decide +kernel
def MT2 : List MTe := [(1, 93, 2, M_X3_workedOut), (1, 97, 0, M_J9_floorMod_7cf53), (1, 103, 0, M_J9_min_7cf53), (1, 106, 0, M_J9_max_7cf53), (1, 109, 2, M_X1_given), (1, 113, 2, M_X0_colourOf), (1, 117, 2, M_X0_wearOf), (1, 120, 2, M_X1_worthOf), (1, 123, 2, M_X1_patternOf), (1, 126, 2, M_X10_step), (1, 130, 2, M_X10_wearing), (1, 134, 2, M_X0_setWear), (1, 138, 2, M_X10_wouldEat), (1, 142, 2, M_X0_setColour), (1, 145, 2, M_X1_draw), (1, 148, 2, M_X1_passDay)]
set_option maxRecDepth 20000 in
theorem mt2_0 : ∀ w ∈ wdM (1, 93, 2, M_X3_workedOut), w ∈ GT := in_GT [393, 394, 395, 60, 396] (by decide +kernel) (by decide +kernel)
set_option maxRecDepth 20000 in
theorem mt2_1 : ∀ w ∈ wdM (1, 97, 0, M_J9_floorMod_7cf53), w ∈ GT := in_GT [411, 412, 62, 413] (by decide +kernel) (by decide +kernel)
set_option maxRecDepth 20000 in
theorem mt2_2 : ∀ w ∈ wdM (1, 103, 0, M_J9_min_7cf53), w ∈ GT := in_GT [414, 375, 62, 376] (by decide +kernel) (by decide +kernel)
set_option maxRecDepth 20000 in
theorem mt2_3 : ∀ w ∈ wdM (1, 106, 0, M_J9_max_7cf53), w ∈ GT := in_GT [415, 121, 62, 122] (by decide +kernel) (by decide +kernel)
set_option maxRecDepth 20000 in
theorem mt2_4 : ∀ w ∈ wdM (1, 109, 2, M_X1_given), w ∈ GT := in_GT [385, 386, 387, 58, 388] (by decide +kernel) (by decide +kernel)
set_option maxRecDepth 20000 in
theorem mt2_5 : ∀ w ∈ wdM (1, 113, 2, M_X0_colourOf), w ∈ GT := in_GT [420, 358, 359, 59, 360] (by decide +kernel) (by decide +kernel)
set_option maxRecDepth 20000 in
theorem mt2_6 : ∀ w ∈ wdM (1, 117, 2, M_X0_wearOf), w ∈ GT := in_GT [421, 363, 364, 59, 365] (by decide +kernel) (by decide +kernel)
set_option maxRecDepth 20000 in
theorem mt2_7 : ∀ w ∈ wdM (1, 120, 2, M_X1_worthOf), w ∈ GT := in_GT [904, 417, 418, 58, 419] (by decide +kernel) (by decide +kernel)
set_option maxRecDepth 20000 in
theorem mt2_8 : ∀ w ∈ wdM (1, 123, 2, M_X1_patternOf), w ∈ GT := in_GT [465, 382, 383, 58, 384] (by decide +kernel) (by decide +kernel)
set_option maxRecDepth 20000 in
theorem mt2_9 : ∀ w ∈ wdM (1, 126, 2, M_X10_step), w ∈ GT := in_GT [701, 702, 703, 63, 704] (by decide +kernel) (by decide +kernel)
set_option maxRecDepth 20000 in
theorem mt2_10 : ∀ w ∈ wdM (1, 130, 2, M_X10_wearing), w ∈ GT := in_GT [729, 497, 498, 63, 499] (by decide +kernel) (by decide +kernel)
set_option maxRecDepth 20000 in
theorem mt2_11 : ∀ w ∈ wdM (1, 134, 2, M_X0_setWear), w ∈ GT := in_GT [730, 371, 372, 59, 373] (by decide +kernel) (by decide +kernel)
set_option maxRecDepth 20000 in
theorem mt2_12 : ∀ w ∈ wdM (1, 138, 2, M_X10_wouldEat), w ∈ GT := in_GT [731, 511, 512, 63, 513] (by decide +kernel) (by decide +kernel)
set_option maxRecDepth 20000 in
theorem mt2_13 : ∀ w ∈ wdM (1, 142, 2, M_X0_setColour), w ∈ GT := in_GT [732, 367, 368, 59, 369] (by decide +kernel) (by decide +kernel)
set_option maxRecDepth 20000 in
theorem mt2_14 : ∀ w ∈ wdM (1, 145, 2, M_X1_draw), w ∈ GT := in_GT [741, 742, 743, 58, 744] (by decide +kernel) (by decide +kernel)
set_option maxRecDepth 20000 in
theorem mt2_15 : ∀ w ∈ wdM (1, 148, 2, M_X1_passDay), w ∈ GT := in_GT [746, 698, 699, 58, 700] (by decide +kernel) (by decide +kernel)
theorem MT2_w : ∀ q ∈ MT2, ∀ w ∈ wdM q, w ∈ GT := List.forall_mem_cons.mpr ⟨mt2_0, List.forall_mem_cons.mpr ⟨mt2_1, List.forall_mem_cons.mpr ⟨mt2_2, List.forall_mem_cons.mpr ⟨mt2_3, List.forall_mem_cons.mpr ⟨mt2_4, List.forall_mem_cons.mpr ⟨mt2_5, List.forall_mem_cons.mpr ⟨mt2_6, List.forall_mem_cons.mpr ⟨mt2_7, List.forall_mem_cons.mpr ⟨mt2_8, List.forall_mem_cons.mpr ⟨mt2_9, List.forall_mem_cons.mpr ⟨mt2_10, List.forall_mem_cons.mpr ⟨mt2_11, List.forall_mem_cons.mpr ⟨mt2_12, List.forall_mem_cons.mpr ⟨mt2_13, List.forall_mem_cons.mpr ⟨mt2_14, List.forall_mem_cons.mpr ⟨mt2_15, fun _ h => absurd h List.not_mem_nil⟩⟩⟩⟩⟩⟩⟩⟩⟩⟩⟩⟩⟩⟩⟩⟩
theorem MT2_k : ∀ q ∈ MT2, okM q = true := by decide +kernel
def MT3 : List MTe := [(2, 3, 6, M_X0_init), (2, 26, 2, M_X0_ofColour), (2, 32, 2, M_X0_landOf), (2, 35, 2, M_X2_flood), (2, 39, 1, M_X11_isWithin), (2, 43, 0, M_J13_bitCount_95d88), (2, 49, 2, M_X2_keepIfBetter), (2, 53, 0, M_X7_grown), (2, 59, 7, M_X0_init), (3, 3, 6, M_X0_init), (3, 11, 3, M_X6_init), (3, 28, 2, M_X6_copyFrom), (3, 32, 2, M_X6_get), (3, 36, 0, M_X3_valueOf), (3, 40, 0, M_X3_joined), (4, 3, 6, M_X0_init)]
set_option maxRecDepth 20000 in
theorem mt3_0 : ∀ w ∈ wdM (2, 3, 6, M_X0_init), w ∈ GT := in_GT [276, 84, 85] (by decide +kernel) (by decide +kernel)
set_option maxRecDepth 20000 in
theorem mt3_1 : ∀ w ∈ wdM (2, 26, 2, M_X0_ofColour), w ∈ GT := in_GT [914, 432, 433, 59, 434] (by decide +kernel) (by decide +kernel)
set_option maxRecDepth 20000 in
theorem mt3_2 : ∀ w ∈ wdM (2, 32, 2, M_X0_landOf), w ∈ GT := in_GT [915, 423, 424, 59, 425] (by decide +kernel) (by decide +kernel)
set_option maxRecDepth 20000 in
theorem mt3_3 : ∀ w ∈ wdM (2, 35, 2, M_X2_flood), w ∈ GT := in_GT [916, 918, 9, 67, 919] (by decide +kernel) (by decide +kernel)
set_option maxRecDepth 20000 in
theorem mt3_4 : ∀ w ∈ wdM (2, 39, 1, M_X11_isWithin), w ∈ GT := in_GT [349, 57, 350] (by decide +kernel) (by decide +kernel)
set_option maxRecDepth 20000 in
theorem mt3_5 : ∀ w ∈ wdM (2, 43, 0, M_J13_bitCount_95d88), w ∈ GT := in_GT [920, 448, 71, 449] (by decide +kernel) (by decide +kernel)
set_option maxRecDepth 20000 in
theorem mt3_6 : ∀ w ∈ wdM (2, 49, 2, M_X2_keepIfBetter), w ∈ GT := in_GT [921, 923, 10, 67, 924] (by decide +kernel) (by decide +kernel)
set_option maxRecDepth 20000 in
theorem mt3_7 : ∀ w ∈ wdM (2, 53, 0, M_X7_grown), w ∈ GT := in_GT [928, 436, 70, 437] (by decide +kernel) (by decide +kernel)
set_option maxRecDepth 20000 in
theorem mt3_8 : ∀ w ∈ wdM (2, 59, 7, M_X0_init), w ∈ GT := in_GT [925, 927, 926, 77] (by decide +kernel) (by decide +kernel)
set_option maxRecDepth 20000 in
theorem mt3_9 : ∀ w ∈ wdM (3, 3, 6, M_X0_init), w ∈ GT := in_GT [113, 84, 85] (by decide +kernel) (by decide +kernel)
set_option maxRecDepth 20000 in
theorem mt3_10 : ∀ w ∈ wdM (3, 11, 3, M_X6_init), w ∈ GT := in_GT [116, 117, 61, 118] (by decide +kernel) (by decide +kernel)
set_option maxRecDepth 20000 in
theorem mt3_11 : ∀ w ∈ wdM (3, 28, 2, M_X6_copyFrom), w ∈ GT := in_GT [680, 681, 682, 61, 683] (by decide +kernel) (by decide +kernel)
set_option maxRecDepth 20000 in
theorem mt3_12 : ∀ w ∈ wdM (3, 32, 2, M_X6_get), w ∈ GT := in_GT [397, 398, 399, 61, 400] (by decide +kernel) (by decide +kernel)
set_option maxRecDepth 20000 in
theorem mt3_13 : ∀ w ∈ wdM (3, 36, 0, M_X3_valueOf), w ∈ GT := in_GT [405, 406, 60, 407] (by decide +kernel) (by decide +kernel)
set_option maxRecDepth 20000 in
theorem mt3_14 : ∀ w ∈ wdM (3, 40, 0, M_X3_joined), w ∈ GT := in_GT [408, 409, 60, 410] (by decide +kernel) (by decide +kernel)
set_option maxRecDepth 20000 in
theorem mt3_15 : ∀ w ∈ wdM (4, 3, 6, M_X0_init), w ∈ GT := in_GT [210, 84, 85] (by decide +kernel) (by decide +kernel)
theorem MT3_w : ∀ q ∈ MT3, ∀ w ∈ wdM q, w ∈ GT := List.forall_mem_cons.mpr ⟨mt3_0, List.forall_mem_cons.mpr ⟨mt3_1, List.forall_mem_cons.mpr ⟨mt3_2, List.forall_mem_cons.mpr ⟨mt3_3, List.forall_mem_cons.mpr ⟨mt3_4, List.forall_mem_cons.mpr ⟨mt3_5, List.forall_mem_cons.mpr ⟨mt3_6, List.forall_mem_cons.mpr ⟨mt3_7, List.forall_mem_cons.mpr ⟨mt3_8, List.forall_mem_cons.mpr ⟨mt3_9, List.forall_mem_cons.mpr ⟨mt3_10, List.forall_mem_cons.mpr ⟨mt3_11, List.forall_mem_cons.mpr ⟨mt3_12, List.forall_mem_cons.mpr ⟨mt3_13, List.forall_mem_cons.mpr ⟨mt3_14, List.forall_mem_cons.mpr ⟨mt3_15, fun _ h => absurd h List.not_mem_nil⟩⟩⟩⟩⟩⟩⟩⟩⟩⟩⟩⟩⟩⟩⟩⟩
theorem MT3_k : ∀ q ∈ MT3, okM q = true := by decide +kernel
def MT4 : List MTe := [(4, 11, 3, M_X6_init), (4, 41, 2, M_X6_clear), (4, 44, 2, M_X4_readLevel), (4, 61, 2, M_X6_get), (4, 65, 2, M_J0_indexOf_0f7a4), (4, 70, 2, M_X4_readFactor), (4, 73, 0, M_X4_operatorsOf), (4, 77, 2, M_X4_isAhead), (4, 81, 2, M_X4_ahead), (4, 87, 2, M_X6_add), (4, 93, 2, M_X4_readNumber), (4, 96, 2, M_X4_close), (5, 3, 6, M_X0_init), (5, 21, 0, M_X7_has), (5, 27, 0, M_X7_of), (5, 31, 0, M_X7_stepped)]
set_option maxRecDepth 20000 in
theorem mt4_0 : ∀ w ∈ wdM (4, 11, 3, M_X6_init), w ∈ GT := in_GT [212, 117, 61, 118] (by decide +kernel) (by decide +kernel)
set_option maxRecDepth 20000 in
theorem mt4_1 : ∀ w ∈ wdM (4, 41, 2, M_X6_clear), w ∈ GT := in_GT [550, 551, 552, 61, 553] (by decide +kernel) (by decide +kernel)
set_option maxRecDepth 20000 in
theorem mt4_2 : ∀ w ∈ wdM (4, 44, 2, M_X4_readLevel), w ∈ GT := in_GT [554, 556, 1, 64, 557] (by decide +kernel) (by decide +kernel)
set_option maxRecDepth 20000 in
theorem mt4_3 : ∀ w ∈ wdM (4, 61, 2, M_X6_get), w ∈ GT := in_GT [567, 398, 399, 61, 400] (by decide +kernel) (by decide +kernel)
set_option maxRecDepth 20000 in
theorem mt4_4 : ∀ w ∈ wdM (4, 65, 2, M_J0_indexOf_0f7a4), w ∈ GT := in_GT [568, 569, 570, 72, 571] (by decide +kernel) (by decide +kernel)
set_option maxRecDepth 20000 in
theorem mt4_5 : ∀ w ∈ wdM (4, 70, 2, M_X4_readFactor), w ∈ GT := in_GT [558, 560, 2, 64, 561] (by decide +kernel) (by decide +kernel)
set_option maxRecDepth 20000 in
theorem mt4_6 : ∀ w ∈ wdM (4, 73, 0, M_X4_operatorsOf), w ∈ GT := in_GT [663, 664, 64, 665] (by decide +kernel) (by decide +kernel)
set_option maxRecDepth 20000 in
theorem mt4_7 : ∀ w ∈ wdM (4, 77, 2, M_X4_isAhead), w ∈ GT := in_GT [563, 565, 3, 64, 566] (by decide +kernel) (by decide +kernel)
set_option maxRecDepth 20000 in
theorem mt4_8 : ∀ w ∈ wdM (4, 81, 2, M_X4_ahead), w ∈ GT := in_GT [654, 656, 5, 64, 657] (by decide +kernel) (by decide +kernel)
set_option maxRecDepth 20000 in
theorem mt4_9 : ∀ w ∈ wdM (4, 87, 2, M_X6_add), w ∈ GT := in_GT [658, 534, 535, 61, 536] (by decide +kernel) (by decide +kernel)
set_option maxRecDepth 20000 in
theorem mt4_10 : ∀ w ∈ wdM (4, 93, 2, M_X4_readNumber), w ∈ GT := in_GT [650, 652, 4, 64, 653] (by decide +kernel) (by decide +kernel)
set_option maxRecDepth 20000 in
theorem mt4_11 : ∀ w ∈ wdM (4, 96, 2, M_X4_close), w ∈ GT := in_GT [659, 661, 6, 64, 662] (by decide +kernel) (by decide +kernel)
set_option maxRecDepth 20000 in
theorem mt4_12 : ∀ w ∈ wdM (5, 3, 6, M_X0_init), w ∈ GT := in_GT [259, 84, 85] (by decide +kernel) (by decide +kernel)
set_option maxRecDepth 20000 in
theorem mt4_13 : ∀ w ∈ wdM (5, 21, 0, M_X7_has), w ∈ GT := in_GT [842, 765, 70, 766] (by decide +kernel) (by decide +kernel)
set_option maxRecDepth 20000 in
theorem mt4_14 : ∀ w ∈ wdM (5, 27, 0, M_X7_of), w ∈ GT := in_GT [843, 427, 70, 428] (by decide +kernel) (by decide +kernel)
set_option maxRecDepth 20000 in
theorem mt4_15 : ∀ w ∈ wdM (5, 31, 0, M_X7_stepped), w ∈ GT := in_GT [844, 442, 70, 443] (by decide +kernel) (by decide +kernel)
theorem MT4_w : ∀ q ∈ MT4, ∀ w ∈ wdM q, w ∈ GT := List.forall_mem_cons.mpr ⟨mt4_0, List.forall_mem_cons.mpr ⟨mt4_1, List.forall_mem_cons.mpr ⟨mt4_2, List.forall_mem_cons.mpr ⟨mt4_3, List.forall_mem_cons.mpr ⟨mt4_4, List.forall_mem_cons.mpr ⟨mt4_5, List.forall_mem_cons.mpr ⟨mt4_6, List.forall_mem_cons.mpr ⟨mt4_7, List.forall_mem_cons.mpr ⟨mt4_8, List.forall_mem_cons.mpr ⟨mt4_9, List.forall_mem_cons.mpr ⟨mt4_10, List.forall_mem_cons.mpr ⟨mt4_11, List.forall_mem_cons.mpr ⟨mt4_12, List.forall_mem_cons.mpr ⟨mt4_13, List.forall_mem_cons.mpr ⟨mt4_14, List.forall_mem_cons.mpr ⟨mt4_15, fun _ h => absurd h List.not_mem_nil⟩⟩⟩⟩⟩⟩⟩⟩⟩⟩⟩⟩⟩⟩⟩⟩
theorem MT4_k : ∀ q ∈ MT4, okM q = true := by decide +kernel
def MT5 : List MTe := [(5, 35, 2, M_X5_goOn), (6, 1, 6, M_X0_init), (6, 13, 0, M_J9_max_7cf53), (6, 23, 2, M_X6_has), (6, 27, 2, M_X6_clear), (6, 30, 2, M_X6_get), (6, 34, 2, M_X6_add), (7, 11, 1, M_X11_isKnot), (7, 15, 0, M_X7_of), (7, 19, 0, M_J13_bitCount_95d88), (7, 31, 0, M_X7_stepped), (7, 35, 0, M_X7_around), (8, 3, 6, M_X0_init), (8, 22, 2, M_X8_has), (8, 26, 2, M_X8_isMissing), (8, 30, 1, M_X11_isColour)]
set_option maxRecDepth 20000 in
theorem mt5_0 : ∀ w ∈ wdM (5, 35, 2, M_X5_goOn), w ∈ GT := in_GT [845, 847, 7, 66, 848] (by decide +kernel) (by decide +kernel)
set_option maxRecDepth 20000 in
theorem mt5_1 : ∀ w ∈ wdM (6, 1, 6, M_X0_init), w ∈ GT := in_GT [119, 84, 85] (by decide +kernel) (by decide +kernel)
set_option maxRecDepth 20000 in
theorem mt5_2 : ∀ w ∈ wdM (6, 13, 0, M_J9_max_7cf53), w ∈ GT := in_GT [120, 121, 62, 122] (by decide +kernel) (by decide +kernel)
set_option maxRecDepth 20000 in
theorem mt5_3 : ∀ w ∈ wdM (6, 23, 2, M_X6_has), w ∈ GT := in_GT [401, 402, 403, 61, 404] (by decide +kernel) (by decide +kernel)
set_option maxRecDepth 20000 in
theorem mt5_4 : ∀ w ∈ wdM (6, 27, 2, M_X6_clear), w ∈ GT := in_GT [684, 551, 552, 61, 553] (by decide +kernel) (by decide +kernel)
set_option maxRecDepth 20000 in
theorem mt5_5 : ∀ w ∈ wdM (6, 30, 2, M_X6_get), w ∈ GT := in_GT [685, 398, 399, 61, 400] (by decide +kernel) (by decide +kernel)
set_option maxRecDepth 20000 in
theorem mt5_6 : ∀ w ∈ wdM (6, 34, 2, M_X6_add), w ∈ GT := in_GT [686, 534, 535, 61, 536] (by decide +kernel) (by decide +kernel)
set_option maxRecDepth 20000 in
theorem mt5_7 : ∀ w ∈ wdM (7, 11, 1, M_X11_isKnot), w ∈ GT := in_GT [346, 57, 347] (by decide +kernel) (by decide +kernel)
set_option maxRecDepth 20000 in
theorem mt5_8 : ∀ w ∈ wdM (7, 15, 0, M_X7_of), w ∈ GT := in_GT [767, 427, 70, 428] (by decide +kernel) (by decide +kernel)
set_option maxRecDepth 20000 in
theorem mt5_9 : ∀ w ∈ wdM (7, 19, 0, M_J13_bitCount_95d88), w ∈ GT := in_GT [456, 448, 71, 449] (by decide +kernel) (by decide +kernel)
set_option maxRecDepth 20000 in
theorem mt5_10 : ∀ w ∈ wdM (7, 31, 0, M_X7_stepped), w ∈ GT := in_GT [441, 442, 70, 443] (by decide +kernel) (by decide +kernel)
set_option maxRecDepth 20000 in
theorem mt5_11 : ∀ w ∈ wdM (7, 35, 0, M_X7_around), w ∈ GT := in_GT [438, 439, 70, 440] (by decide +kernel) (by decide +kernel)
set_option maxRecDepth 20000 in
theorem mt5_12 : ∀ w ∈ wdM (8, 3, 6, M_X0_init), w ∈ GT := in_GT [297, 84, 85] (by decide +kernel) (by decide +kernel)
set_option maxRecDepth 20000 in
theorem mt5_13 : ∀ w ∈ wdM (8, 22, 2, M_X8_has), w ∈ GT := in_GT [876, 877, 878, 68, 879] (by decide +kernel) (by decide +kernel)
set_option maxRecDepth 20000 in
theorem mt5_14 : ∀ w ∈ wdM (8, 26, 2, M_X8_isMissing), w ∈ GT := in_GT [862, 863, 864, 68, 865] (by decide +kernel) (by decide +kernel)
set_option maxRecDepth 20000 in
theorem mt5_15 : ∀ w ∈ wdM (8, 30, 1, M_X11_isColour), w ∈ GT := in_GT [788, 57, 789] (by decide +kernel) (by decide +kernel)
theorem MT5_w : ∀ q ∈ MT5, ∀ w ∈ wdM q, w ∈ GT := List.forall_mem_cons.mpr ⟨mt5_0, List.forall_mem_cons.mpr ⟨mt5_1, List.forall_mem_cons.mpr ⟨mt5_2, List.forall_mem_cons.mpr ⟨mt5_3, List.forall_mem_cons.mpr ⟨mt5_4, List.forall_mem_cons.mpr ⟨mt5_5, List.forall_mem_cons.mpr ⟨mt5_6, List.forall_mem_cons.mpr ⟨mt5_7, List.forall_mem_cons.mpr ⟨mt5_8, List.forall_mem_cons.mpr ⟨mt5_9, List.forall_mem_cons.mpr ⟨mt5_10, List.forall_mem_cons.mpr ⟨mt5_11, List.forall_mem_cons.mpr ⟨mt5_12, List.forall_mem_cons.mpr ⟨mt5_13, List.forall_mem_cons.mpr ⟨mt5_14, List.forall_mem_cons.mpr ⟨mt5_15, fun _ h => absurd h List.not_mem_nil⟩⟩⟩⟩⟩⟩⟩⟩⟩⟩⟩⟩⟩⟩⟩⟩
theorem MT5_k : ∀ q ∈ MT5, okM q = true := by decide +kernel
def MT6 : List MTe := [(9, 3, 6, M_X0_init), (9, 11, 3, M_X6_init), (9, 30, 2, M_X6_clear), (9, 37, 2, M_X9_say), (9, 45, 1, M_X11_isWithin), (9, 49, 0, M_X10_kindAbove), (9, 53, 0, M_X9_bodyOf), (9, 57, 2, M_X6_add), (10, 3, 6, M_X0_init), (10, 24, 1, M_X11_isWithin), (10, 32, 0, M_X10_kindAbove), (10, 36, 2, M_X10_isOf), (10, 40, 2, M_X0_wearOf), (10, 45, 2, M_X10_stepAsCat), (10, 49, 2, M_X10_stepAsMoth), (10, 52, 2, M_X10_stepAsWalker)]
set_option maxRecDepth 20000 in
theorem mt6_0 : ∀ w ∈ wdM (9, 3, 6, M_X0_init), w ∈ GT := in_GT [237, 84, 85] (by decide +kernel) (by decide +kernel)
set_option maxRecDepth 20000 in
theorem mt6_1 : ∀ w ∈ wdM (9, 11, 3, M_X6_init), w ∈ GT := in_GT [239, 117, 61, 118] (by decide +kernel) (by decide +kernel)
set_option maxRecDepth 20000 in
theorem mt6_2 : ∀ w ∈ wdM (9, 30, 2, M_X6_clear), w ∈ GT := in_GT [965, 551, 552, 61, 553] (by decide +kernel) (by decide +kernel)
set_option maxRecDepth 20000 in
theorem mt6_3 : ∀ w ∈ wdM (9, 37, 2, M_X9_say), w ∈ GT := in_GT [966, 968, 11, 65, 969] (by decide +kernel) (by decide +kernel)
set_option maxRecDepth 20000 in
theorem mt6_4 : ∀ w ∈ wdM (9, 45, 1, M_X11_isWithin), w ∈ GT := in_GT [349, 57, 350] (by decide +kernel) (by decide +kernel)
set_option maxRecDepth 20000 in
theorem mt6_5 : ∀ w ∈ wdM (9, 49, 0, M_X10_kindAbove), w ∈ GT := in_GT [976, 505, 63, 506] (by decide +kernel) (by decide +kernel)
set_option maxRecDepth 20000 in
theorem mt6_6 : ∀ w ∈ wdM (9, 53, 0, M_X9_bodyOf), w ∈ GT := in_GT [970, 971, 65, 972] (by decide +kernel) (by decide +kernel)
set_option maxRecDepth 20000 in
theorem mt6_7 : ∀ w ∈ wdM (9, 57, 2, M_X6_add), w ∈ GT := in_GT [977, 534, 535, 61, 536] (by decide +kernel) (by decide +kernel)
set_option maxRecDepth 20000 in
theorem mt6_8 : ∀ w ∈ wdM (10, 3, 6, M_X0_init), w ∈ GT := in_GT [147, 84, 85] (by decide +kernel) (by decide +kernel)
set_option maxRecDepth 20000 in
theorem mt6_9 : ∀ w ∈ wdM (10, 24, 1, M_X11_isWithin), w ∈ GT := in_GT [349, 57, 350] (by decide +kernel) (by decide +kernel)
set_option maxRecDepth 20000 in
theorem mt6_10 : ∀ w ∈ wdM (10, 32, 0, M_X10_kindAbove), w ∈ GT := in_GT [504, 505, 63, 506] (by decide +kernel) (by decide +kernel)
set_option maxRecDepth 20000 in
theorem mt6_11 : ∀ w ∈ wdM (10, 36, 2, M_X10_isOf), w ∈ GT := in_GT [500, 501, 502, 63, 503] (by decide +kernel) (by decide +kernel)
set_option maxRecDepth 20000 in
theorem mt6_12 : ∀ w ∈ wdM (10, 40, 2, M_X0_wearOf), w ∈ GT := in_GT [514, 363, 364, 59, 365] (by decide +kernel) (by decide +kernel)
set_option maxRecDepth 20000 in
theorem mt6_13 : ∀ w ∈ wdM (10, 45, 2, M_X10_stepAsCat), w ∈ GT := in_GT [705, 706, 707, 63, 708] (by decide +kernel) (by decide +kernel)
set_option maxRecDepth 20000 in
theorem mt6_14 : ∀ w ∈ wdM (10, 49, 2, M_X10_stepAsMoth), w ∈ GT := in_GT [721, 722, 723, 63, 724] (by decide +kernel) (by decide +kernel)
set_option maxRecDepth 20000 in
theorem mt6_15 : ∀ w ∈ wdM (10, 52, 2, M_X10_stepAsWalker), w ∈ GT := in_GT [725, 726, 727, 63, 728] (by decide +kernel) (by decide +kernel)
theorem MT6_w : ∀ q ∈ MT6, ∀ w ∈ wdM q, w ∈ GT := List.forall_mem_cons.mpr ⟨mt6_0, List.forall_mem_cons.mpr ⟨mt6_1, List.forall_mem_cons.mpr ⟨mt6_2, List.forall_mem_cons.mpr ⟨mt6_3, List.forall_mem_cons.mpr ⟨mt6_4, List.forall_mem_cons.mpr ⟨mt6_5, List.forall_mem_cons.mpr ⟨mt6_6, List.forall_mem_cons.mpr ⟨mt6_7, List.forall_mem_cons.mpr ⟨mt6_8, List.forall_mem_cons.mpr ⟨mt6_9, List.forall_mem_cons.mpr ⟨mt6_10, List.forall_mem_cons.mpr ⟨mt6_11, List.forall_mem_cons.mpr ⟨mt6_12, List.forall_mem_cons.mpr ⟨mt6_13, List.forall_mem_cons.mpr ⟨mt6_14, List.forall_mem_cons.mpr ⟨mt6_15, fun _ h => absurd h List.not_mem_nil⟩⟩⟩⟩⟩⟩⟩⟩⟩⟩⟩⟩⟩⟩⟩⟩
theorem MT6_k : ∀ q ∈ MT6, okM q = true := by decide +kernel
def MT7 : List MTe := [(10, 55, 0, M_X7_beside), (10, 61, 2, M_X10_go), (10, 65, 2, M_X0_colourOf), (10, 68, 2, M_X10_turned), (11, 3, 6, M_X0_init), (11, 11, 3, M_X1_init), (11, 24, 4, M_X4_init), (11, 31, 4, M_X9_init), (11, 38, 4, M_X5_init), (11, 45, 4, M_X2_init), (11, 64, 4, M_X8_init), (11, 65, 0, M_X11_isKnot), (11, 69, 0, M_X11_isWithin), (11, 74, 2, M_X11_refuse), (11, 82, 2, M_X0_colourOf), (11, 87, 2, M_X0_wearOf)]
set_option maxRecDepth 20000 in
theorem mt7_0 : ∀ w ∈ wdM (10, 55, 0, M_X7_beside), w ∈ GT := in_GT [714, 715, 70, 716] (by decide +kernel) (by decide +kernel)
set_option maxRecDepth 20000 in
theorem mt7_1 : ∀ w ∈ wdM (10, 61, 2, M_X10_go), w ∈ GT := in_GT [717, 718, 719, 63, 720] (by decide +kernel) (by decide +kernel)
set_option maxRecDepth 20000 in
theorem mt7_2 : ∀ w ∈ wdM (10, 65, 2, M_X0_colourOf), w ∈ GT := in_GT [709, 358, 359, 59, 360] (by decide +kernel) (by decide +kernel)
set_option maxRecDepth 20000 in
theorem mt7_3 : ∀ w ∈ wdM (10, 68, 2, M_X10_turned), w ∈ GT := in_GT [710, 711, 712, 63, 713] (by decide +kernel) (by decide +kernel)
set_option maxRecDepth 20000 in
theorem mt7_4 : ∀ w ∈ wdM (11, 3, 6, M_X0_init), w ∈ GT := in_GT [83, 84, 85] (by decide +kernel) (by decide +kernel)
set_option maxRecDepth 20000 in
theorem mt7_5 : ∀ w ∈ wdM (11, 11, 3, M_X1_init), w ∈ GT := in_GT [88, 89, 58, 90] (by decide +kernel) (by decide +kernel)
set_option maxRecDepth 20000 in
theorem mt7_6 : ∀ w ∈ wdM (11, 24, 4, M_X4_init), w ∈ GT := in_GT [208, 64, 209] (by decide +kernel) (by decide +kernel)
set_option maxRecDepth 20000 in
theorem mt7_7 : ∀ w ∈ wdM (11, 31, 4, M_X9_init), w ∈ GT := in_GT [235, 65, 236] (by decide +kernel) (by decide +kernel)
set_option maxRecDepth 20000 in
theorem mt7_8 : ∀ w ∈ wdM (11, 38, 4, M_X5_init), w ∈ GT := in_GT [257, 66, 258] (by decide +kernel) (by decide +kernel)
set_option maxRecDepth 20000 in
theorem mt7_9 : ∀ w ∈ wdM (11, 45, 4, M_X2_init), w ∈ GT := in_GT [274, 67, 275] (by decide +kernel) (by decide +kernel)
set_option maxRecDepth 20000 in
theorem mt7_10 : ∀ w ∈ wdM (11, 64, 4, M_X8_init), w ∈ GT := in_GT [295, 68, 296] (by decide +kernel) (by decide +kernel)
set_option maxRecDepth 20000 in
theorem mt7_11 : ∀ w ∈ wdM (11, 65, 0, M_X11_isKnot), w ∈ GT := in_GT [345, 346, 57, 347] (by decide +kernel) (by decide +kernel)
set_option maxRecDepth 20000 in
theorem mt7_12 : ∀ w ∈ wdM (11, 69, 0, M_X11_isWithin), w ∈ GT := in_GT [348, 349, 57, 350] (by decide +kernel) (by decide +kernel)
set_option maxRecDepth 20000 in
theorem mt7_13 : ∀ w ∈ wdM (11, 74, 2, M_X11_refuse), w ∈ GT := in_GT [352, 354, 0, 57, 355] (by decide +kernel) (by decide +kernel)
set_option maxRecDepth 20000 in
theorem mt7_14 : ∀ w ∈ wdM (11, 82, 2, M_X0_colourOf), w ∈ GT := in_GT [357, 358, 359, 59, 360] (by decide +kernel) (by decide +kernel)
set_option maxRecDepth 20000 in
theorem mt7_15 : ∀ w ∈ wdM (11, 87, 2, M_X0_wearOf), w ∈ GT := in_GT [362, 363, 364, 59, 365] (by decide +kernel) (by decide +kernel)
theorem MT7_w : ∀ q ∈ MT7, ∀ w ∈ wdM q, w ∈ GT := List.forall_mem_cons.mpr ⟨mt7_0, List.forall_mem_cons.mpr ⟨mt7_1, List.forall_mem_cons.mpr ⟨mt7_2, List.forall_mem_cons.mpr ⟨mt7_3, List.forall_mem_cons.mpr ⟨mt7_4, List.forall_mem_cons.mpr ⟨mt7_5, List.forall_mem_cons.mpr ⟨mt7_6, List.forall_mem_cons.mpr ⟨mt7_7, List.forall_mem_cons.mpr ⟨mt7_8, List.forall_mem_cons.mpr ⟨mt7_9, List.forall_mem_cons.mpr ⟨mt7_10, List.forall_mem_cons.mpr ⟨mt7_11, List.forall_mem_cons.mpr ⟨mt7_12, List.forall_mem_cons.mpr ⟨mt7_13, List.forall_mem_cons.mpr ⟨mt7_14, List.forall_mem_cons.mpr ⟨mt7_15, fun _ h => absurd h List.not_mem_nil⟩⟩⟩⟩⟩⟩⟩⟩⟩⟩⟩⟩⟩⟩⟩⟩
theorem MT7_k : ∀ q ∈ MT7, okM q = true := by decide +kernel
def MT8 : List MTe := [(11, 90, 2, M_X0_setColour), (11, 94, 2, M_X0_setWear), (11, 97, 2, M_X1_patternOf), (11, 100, 2, M_X1_worthOf), (11, 103, 2, M_X0_landOf), (11, 107, 0, M_J13_bitCount_95d88), (11, 113, 0, M_X7_least), (11, 118, 2, M_X1_countSlips), (11, 122, 2, M_X0_countHoles), (11, 125, 0, M_X11_isKindAndM), (11, 128, 2, M_X1_addWalker), (11, 133, 2, M_X1_walkerOf), (11, 151, 2, M_X10_wearing), (11, 154, 2, M_X10_wouldEat), (11, 158, 2, M_X10_isOf), (11, 171, 2, M_X6_add)]
set_option maxRecDepth 20000 in
theorem mt8_0 : ∀ w ∈ wdM (11, 90, 2, M_X0_setColour), w ∈ GT := in_GT [366, 367, 368, 59, 369] (by decide +kernel) (by decide +kernel)
set_option maxRecDepth 20000 in
theorem mt8_1 : ∀ w ∈ wdM (11, 94, 2, M_X0_setWear), w ∈ GT := in_GT [370, 371, 372, 59, 373] (by decide +kernel) (by decide +kernel)
set_option maxRecDepth 20000 in
theorem mt8_2 : ∀ w ∈ wdM (11, 97, 2, M_X1_patternOf), w ∈ GT := in_GT [381, 382, 383, 58, 384] (by decide +kernel) (by decide +kernel)
set_option maxRecDepth 20000 in
theorem mt8_3 : ∀ w ∈ wdM (11, 100, 2, M_X1_worthOf), w ∈ GT := in_GT [416, 417, 418, 58, 419] (by decide +kernel) (by decide +kernel)
set_option maxRecDepth 20000 in
theorem mt8_4 : ∀ w ∈ wdM (11, 103, 2, M_X0_landOf), w ∈ GT := in_GT [422, 423, 424, 59, 425] (by decide +kernel) (by decide +kernel)
set_option maxRecDepth 20000 in
theorem mt8_5 : ∀ w ∈ wdM (11, 107, 0, M_J13_bitCount_95d88), w ∈ GT := in_GT [447, 448, 71, 449] (by decide +kernel) (by decide +kernel)
set_option maxRecDepth 20000 in
theorem mt8_6 : ∀ w ∈ wdM (11, 113, 0, M_X7_least), w ∈ GT := in_GT [453, 454, 70, 455] (by decide +kernel) (by decide +kernel)
set_option maxRecDepth 20000 in
theorem mt8_7 : ∀ w ∈ wdM (11, 118, 2, M_X1_countSlips), w ∈ GT := in_GT [461, 462, 463, 58, 464] (by decide +kernel) (by decide +kernel)
set_option maxRecDepth 20000 in
theorem mt8_8 : ∀ w ∈ wdM (11, 122, 2, M_X0_countHoles), w ∈ GT := in_GT [470, 471, 472, 59, 473] (by decide +kernel) (by decide +kernel)
set_option maxRecDepth 20000 in
theorem mt8_9 : ∀ w ∈ wdM (11, 125, 0, M_X11_isKindAndM), w ∈ GT := in_GT [479, 480, 57, 481] (by decide +kernel) (by decide +kernel)
set_option maxRecDepth 20000 in
theorem mt8_10 : ∀ w ∈ wdM (11, 128, 2, M_X1_addWalker), w ∈ GT := in_GT [482, 483, 484, 58, 485] (by decide +kernel) (by decide +kernel)
set_option maxRecDepth 20000 in
theorem mt8_11 : ∀ w ∈ wdM (11, 133, 2, M_X1_walkerOf), w ∈ GT := in_GT [492, 493, 494, 58, 495] (by decide +kernel) (by decide +kernel)
set_option maxRecDepth 20000 in
theorem mt8_12 : ∀ w ∈ wdM (11, 151, 2, M_X10_wearing), w ∈ GT := in_GT [496, 497, 498, 63, 499] (by decide +kernel) (by decide +kernel)
set_option maxRecDepth 20000 in
theorem mt8_13 : ∀ w ∈ wdM (11, 154, 2, M_X10_wouldEat), w ∈ GT := in_GT [510, 511, 512, 63, 513] (by decide +kernel) (by decide +kernel)
set_option maxRecDepth 20000 in
theorem mt8_14 : ∀ w ∈ wdM (11, 158, 2, M_X10_isOf), w ∈ GT := in_GT [527, 501, 502, 63, 503] (by decide +kernel) (by decide +kernel)
set_option maxRecDepth 20000 in
theorem mt8_15 : ∀ w ∈ wdM (11, 171, 2, M_X6_add), w ∈ GT := in_GT [533, 534, 535, 61, 536] (by decide +kernel) (by decide +kernel)
theorem MT8_w : ∀ q ∈ MT8, ∀ w ∈ wdM q, w ∈ GT := List.forall_mem_cons.mpr ⟨mt8_0, List.forall_mem_cons.mpr ⟨mt8_1, List.forall_mem_cons.mpr ⟨mt8_2, List.forall_mem_cons.mpr ⟨mt8_3, List.forall_mem_cons.mpr ⟨mt8_4, List.forall_mem_cons.mpr ⟨mt8_5, List.forall_mem_cons.mpr ⟨mt8_6, List.forall_mem_cons.mpr ⟨mt8_7, List.forall_mem_cons.mpr ⟨mt8_8, List.forall_mem_cons.mpr ⟨mt8_9, List.forall_mem_cons.mpr ⟨mt8_10, List.forall_mem_cons.mpr ⟨mt8_11, List.forall_mem_cons.mpr ⟨mt8_12, List.forall_mem_cons.mpr ⟨mt8_13, List.forall_mem_cons.mpr ⟨mt8_14, List.forall_mem_cons.mpr ⟨mt8_15, fun _ h => absurd h List.not_mem_nil⟩⟩⟩⟩⟩⟩⟩⟩⟩⟩⟩⟩⟩⟩⟩⟩
theorem MT8_k : ∀ q ∈ MT8, okM q = true := by decide +kernel
def MT9 : List MTe := [(11, 174, 0, M_X11_isUse), (11, 177, 2, M_X4_faultOf), (11, 181, 2, M_X6_clear), (11, 184, 2, M_X1_lawOf), (11, 191, 2, M_X3_learn), (11, 197, 2, M_X1_given), (11, 205, 2, M_X1_passDay), (11, 208, 2, M_X1_passLooseDay), (11, 211, 2, M_X0_countLands), (11, 214, 2, M_X0_greatestLand), (11, 219, 2, M_X0_coloursBeside), (11, 222, 0, M_X11_isColour), (11, 225, 2, M_X0_countPairs), (11, 228, 2, M_X1_countMends), (11, 231, 2, M_X0_leastPeriod), (11, 235, 2, M_X0_staysBy)]
set_option maxRecDepth 20000 in
theorem mt9_0 : ∀ w ∈ wdM (11, 174, 0, M_X11_isUse), w ∈ GT := in_GT [541, 542, 57, 543] (by decide +kernel) (by decide +kernel)
set_option maxRecDepth 20000 in
theorem mt9_1 : ∀ w ∈ wdM (11, 177, 2, M_X4_faultOf), w ∈ GT := in_GT [544, 545, 546, 64, 547] (by decide +kernel) (by decide +kernel)
set_option maxRecDepth 20000 in
theorem mt9_2 : ∀ w ∈ wdM (11, 181, 2, M_X6_clear), w ∈ GT := in_GT [671, 551, 552, 61, 553] (by decide +kernel) (by decide +kernel)
set_option maxRecDepth 20000 in
theorem mt9_3 : ∀ w ∈ wdM (11, 184, 2, M_X1_lawOf), w ∈ GT := in_GT [672, 673, 674, 58, 675] (by decide +kernel) (by decide +kernel)
set_option maxRecDepth 20000 in
theorem mt9_4 : ∀ w ∈ wdM (11, 191, 2, M_X3_learn), w ∈ GT := in_GT [676, 677, 678, 60, 679] (by decide +kernel) (by decide +kernel)
set_option maxRecDepth 20000 in
theorem mt9_5 : ∀ w ∈ wdM (11, 197, 2, M_X1_given), w ∈ GT := in_GT [691, 386, 387, 58, 388] (by decide +kernel) (by decide +kernel)
set_option maxRecDepth 20000 in
theorem mt9_6 : ∀ w ∈ wdM (11, 205, 2, M_X1_passDay), w ∈ GT := in_GT [697, 698, 699, 58, 700] (by decide +kernel) (by decide +kernel)
set_option maxRecDepth 20000 in
theorem mt9_7 : ∀ w ∈ wdM (11, 208, 2, M_X1_passLooseDay), w ∈ GT := in_GT [737, 738, 739, 58, 740] (by decide +kernel) (by decide +kernel)
set_option maxRecDepth 20000 in
theorem mt9_8 : ∀ w ∈ wdM (11, 211, 2, M_X0_countLands), w ∈ GT := in_GT [751, 752, 753, 59, 754] (by decide +kernel) (by decide +kernel)
set_option maxRecDepth 20000 in
theorem mt9_9 : ∀ w ∈ wdM (11, 214, 2, M_X0_greatestLand), w ∈ GT := in_GT [760, 761, 762, 59, 763] (by decide +kernel) (by decide +kernel)
set_option maxRecDepth 20000 in
theorem mt9_10 : ∀ w ∈ wdM (11, 219, 2, M_X0_coloursBeside), w ∈ GT := in_GT [774, 775, 776, 59, 777] (by decide +kernel) (by decide +kernel)
set_option maxRecDepth 20000 in
theorem mt9_11 : ∀ w ∈ wdM (11, 222, 0, M_X11_isColour), w ∈ GT := in_GT [787, 788, 57, 789] (by decide +kernel) (by decide +kernel)
set_option maxRecDepth 20000 in
theorem mt9_12 : ∀ w ∈ wdM (11, 225, 2, M_X0_countPairs), w ∈ GT := in_GT [790, 791, 792, 59, 793] (by decide +kernel) (by decide +kernel)
set_option maxRecDepth 20000 in
theorem mt9_13 : ∀ w ∈ wdM (11, 228, 2, M_X1_countMends), w ∈ GT := in_GT [803, 804, 805, 58, 806] (by decide +kernel) (by decide +kernel)
set_option maxRecDepth 20000 in
theorem mt9_14 : ∀ w ∈ wdM (11, 231, 2, M_X0_leastPeriod), w ∈ GT := in_GT [811, 812, 813, 59, 814] (by decide +kernel) (by decide +kernel)
set_option maxRecDepth 20000 in
theorem mt9_15 : ∀ w ∈ wdM (11, 235, 2, M_X0_staysBy), w ∈ GT := in_GT [826, 827, 828, 59, 829] (by decide +kernel) (by decide +kernel)
theorem MT9_w : ∀ q ∈ MT9, ∀ w ∈ wdM q, w ∈ GT := List.forall_mem_cons.mpr ⟨mt9_0, List.forall_mem_cons.mpr ⟨mt9_1, List.forall_mem_cons.mpr ⟨mt9_2, List.forall_mem_cons.mpr ⟨mt9_3, List.forall_mem_cons.mpr ⟨mt9_4, List.forall_mem_cons.mpr ⟨mt9_5, List.forall_mem_cons.mpr ⟨mt9_6, List.forall_mem_cons.mpr ⟨mt9_7, List.forall_mem_cons.mpr ⟨mt9_8, List.forall_mem_cons.mpr ⟨mt9_9, List.forall_mem_cons.mpr ⟨mt9_10, List.forall_mem_cons.mpr ⟨mt9_11, List.forall_mem_cons.mpr ⟨mt9_12, List.forall_mem_cons.mpr ⟨mt9_13, List.forall_mem_cons.mpr ⟨mt9_14, List.forall_mem_cons.mpr ⟨mt9_15, fun _ h => absurd h List.not_mem_nil⟩⟩⟩⟩⟩⟩⟩⟩⟩⟩⟩⟩⟩⟩⟩⟩
theorem MT9_k : ∀ q ∈ MT9, okM q = true := by decide +kernel
def MT10 : List MTe := [(11, 238, 2, M_X0_ofColour), (11, 241, 2, M_X5_fewestSteps), (11, 245, 2, M_X11_sheetOf), (11, 249, 2, M_X8_isCarpet), (11, 253, 2, M_X0_fitsBy), (11, 257, 2, M_X0_countLayings), (11, 261, 2, M_X0_bestLaying), (11, 264, 2, M_X1_worthOfColumn), (11, 267, 0, M_J9_abs_0f7a4), (11, 272, 2, M_X2_tryAll), (11, 279, 2, M_X2_colourOfFlood), (11, 282, 2, M_X1_copyFrom), (11, 289, 2, M_X9_speak), (11, 296, 2, M_X6_has), (11, 299, 2, M_X6_get), (11, 302, 2, M_X8_make)]
set_option maxRecDepth 20000 in
theorem mt10_0 : ∀ w ∈ wdM (11, 238, 2, M_X0_ofColour), w ∈ GT := in_GT [837, 432, 433, 59, 434] (by decide +kernel) (by decide +kernel)
set_option maxRecDepth 20000 in
theorem mt10_1 : ∀ w ∈ wdM (11, 241, 2, M_X5_fewestSteps), w ∈ GT := in_GT [838, 839, 840, 66, 841] (by decide +kernel) (by decide +kernel)
set_option maxRecDepth 20000 in
theorem mt10_2 : ∀ w ∈ wdM (11, 245, 2, M_X11_sheetOf), w ∈ GT := in_GT [854, 856, 8, 57, 857] (by decide +kernel) (by decide +kernel)
set_option maxRecDepth 20000 in
theorem mt10_3 : ∀ w ∈ wdM (11, 249, 2, M_X8_isCarpet), w ∈ GT := in_GT [858, 859, 860, 68, 861] (by decide +kernel) (by decide +kernel)
set_option maxRecDepth 20000 in
theorem mt10_4 : ∀ w ∈ wdM (11, 253, 2, M_X0_fitsBy), w ∈ GT := in_GT [867, 868, 869, 59, 870] (by decide +kernel) (by decide +kernel)
set_option maxRecDepth 20000 in
theorem mt10_5 : ∀ w ∈ wdM (11, 257, 2, M_X0_countLayings), w ∈ GT := in_GT [884, 885, 886, 59, 887] (by decide +kernel) (by decide +kernel)
set_option maxRecDepth 20000 in
theorem mt10_6 : ∀ w ∈ wdM (11, 261, 2, M_X0_bestLaying), w ∈ GT := in_GT [889, 890, 891, 59, 892] (by decide +kernel) (by decide +kernel)
set_option maxRecDepth 20000 in
theorem mt10_7 : ∀ w ∈ wdM (11, 264, 2, M_X1_worthOfColumn), w ∈ GT := in_GT [900, 901, 902, 58, 903] (by decide +kernel) (by decide +kernel)
set_option maxRecDepth 20000 in
theorem mt10_8 : ∀ w ∈ wdM (11, 267, 0, M_J9_abs_0f7a4), w ∈ GT := in_GT [905, 894, 62, 895] (by decide +kernel) (by decide +kernel)
set_option maxRecDepth 20000 in
theorem mt10_9 : ∀ w ∈ wdM (11, 272, 2, M_X2_tryAll), w ∈ GT := in_GT [910, 911, 912, 67, 913] (by decide +kernel) (by decide +kernel)
set_option maxRecDepth 20000 in
theorem mt10_10 : ∀ w ∈ wdM (11, 279, 2, M_X2_colourOfFlood), w ∈ GT := in_GT [929, 930, 931, 67, 932] (by decide +kernel) (by decide +kernel)
set_option maxRecDepth 20000 in
theorem mt10_11 : ∀ w ∈ wdM (11, 282, 2, M_X1_copyFrom), w ∈ GT := in_GT [938, 939, 940, 58, 941] (by decide +kernel) (by decide +kernel)
set_option maxRecDepth 20000 in
theorem mt10_12 : ∀ w ∈ wdM (11, 289, 2, M_X9_speak), w ∈ GT := in_GT [961, 962, 963, 65, 964] (by decide +kernel) (by decide +kernel)
set_option maxRecDepth 20000 in
theorem mt10_13 : ∀ w ∈ wdM (11, 296, 2, M_X6_has), w ∈ GT := in_GT [982, 402, 403, 61, 404] (by decide +kernel) (by decide +kernel)
set_option maxRecDepth 20000 in
theorem mt10_14 : ∀ w ∈ wdM (11, 299, 2, M_X6_get), w ∈ GT := in_GT [983, 398, 399, 61, 400] (by decide +kernel) (by decide +kernel)
set_option maxRecDepth 20000 in
theorem mt10_15 : ∀ w ∈ wdM (11, 302, 2, M_X8_make), w ∈ GT := in_GT [988, 989, 990, 68, 991] (by decide +kernel) (by decide +kernel)
theorem MT10_w : ∀ q ∈ MT10, ∀ w ∈ wdM q, w ∈ GT := List.forall_mem_cons.mpr ⟨mt10_0, List.forall_mem_cons.mpr ⟨mt10_1, List.forall_mem_cons.mpr ⟨mt10_2, List.forall_mem_cons.mpr ⟨mt10_3, List.forall_mem_cons.mpr ⟨mt10_4, List.forall_mem_cons.mpr ⟨mt10_5, List.forall_mem_cons.mpr ⟨mt10_6, List.forall_mem_cons.mpr ⟨mt10_7, List.forall_mem_cons.mpr ⟨mt10_8, List.forall_mem_cons.mpr ⟨mt10_9, List.forall_mem_cons.mpr ⟨mt10_10, List.forall_mem_cons.mpr ⟨mt10_11, List.forall_mem_cons.mpr ⟨mt10_12, List.forall_mem_cons.mpr ⟨mt10_13, List.forall_mem_cons.mpr ⟨mt10_14, List.forall_mem_cons.mpr ⟨mt10_15, fun _ h => absurd h List.not_mem_nil⟩⟩⟩⟩⟩⟩⟩⟩⟩⟩⟩⟩⟩⟩⟩⟩
theorem MT10_k : ∀ q ∈ MT10, okM q = true := by decide +kernel
def MT11 : List MTe := [(11, 305, 2, M_X8_isMissing), (11, 308, 2, M_X8_has), (11, 309, 2, M_X8_set), (11, 315, 2, M_X8_hasAll), (11, 322, 7, M_X0_init), (11, 328, 2, M_X8_get), (11, 335, 2, M_X0_wearOfAll), (11, 340, 2, M_X0_coloursIn), (12, 1, 6, M_X0_init), (12, 56, 0, M_X12_in), (12, 73, 2, M_X12_here), (12, 81, 2, M_X12_both), (12, 84, 2, M_X12_takes), (12, 88, 2, M_X12_compared), (12, 91, 2, M_X12_sum), (12, 94, 2, M_X12_product)]
set_option maxRecDepth 20000 in
theorem mt11_0 : ∀ w ∈ wdM (11, 305, 2, M_X8_isMissing), w ∈ GT := in_GT [996, 863, 864, 68, 865] (by decide +kernel) (by decide +kernel)
set_option maxRecDepth 20000 in
theorem mt11_1 : ∀ w ∈ wdM (11, 308, 2, M_X8_has), w ∈ GT := in_GT [997, 877, 878, 68, 879] (by decide +kernel) (by decide +kernel)
set_option maxRecDepth 20000 in
theorem mt11_2 : ∀ w ∈ wdM (11, 309, 2, M_X8_set), w ∈ GT := in_GT [998, 999, 1000, 68, 1001] (by decide +kernel) (by decide +kernel)
set_option maxRecDepth 20000 in
theorem mt11_3 : ∀ w ∈ wdM (11, 315, 2, M_X8_hasAll), w ∈ GT := in_GT [1006, 1007, 1008, 68, 1009] (by decide +kernel) (by decide +kernel)
set_option maxRecDepth 20000 in
theorem mt11_4 : ∀ w ∈ wdM (11, 322, 7, M_X0_init), w ∈ GT := in_GT [1010, 927, 926, 77] (by decide +kernel) (by decide +kernel)
set_option maxRecDepth 20000 in
theorem mt11_5 : ∀ w ∈ wdM (11, 328, 2, M_X8_get), w ∈ GT := in_GT [1015, 873, 874, 68, 875] (by decide +kernel) (by decide +kernel)
set_option maxRecDepth 20000 in
theorem mt11_6 : ∀ w ∈ wdM (11, 335, 2, M_X0_wearOfAll), w ∈ GT := in_GT [1040, 1041, 1042, 59, 1043] (by decide +kernel) (by decide +kernel)
set_option maxRecDepth 20000 in
theorem mt11_7 : ∀ w ∈ wdM (11, 340, 2, M_X0_coloursIn), w ∈ GT := in_GT [1045, 780, 781, 59, 782] (by decide +kernel) (by decide +kernel)
set_option maxRecDepth 20000 in
theorem mt11_8 : ∀ w ∈ wdM (12, 1, 6, M_X0_init), w ∈ GT := in_GT [1055, 84, 85] (by decide +kernel) (by decide +kernel)
set_option maxRecDepth 20000 in
theorem mt11_9 : ∀ w ∈ wdM (12, 56, 0, M_X12_in), w ∈ GT := in_GT [1144, 1145, 69, 1146] (by decide +kernel) (by decide +kernel)
set_option maxRecDepth 20000 in
theorem mt11_10 : ∀ w ∈ wdM (12, 73, 2, M_X12_here), w ∈ GT := in_GT [1185, 1187, 20, 69, 1188] (by decide +kernel) (by decide +kernel)
set_option maxRecDepth 20000 in
theorem mt11_11 : ∀ w ∈ wdM (12, 81, 2, M_X12_both), w ∈ GT := in_GT [1165, 1167, 15, 69, 1168] (by decide +kernel) (by decide +kernel)
set_option maxRecDepth 20000 in
theorem mt11_12 : ∀ w ∈ wdM (12, 84, 2, M_X12_takes), w ∈ GT := in_GT [1193, 1195, 22, 69, 1196] (by decide +kernel) (by decide +kernel)
set_option maxRecDepth 20000 in
theorem mt11_13 : ∀ w ∈ wdM (12, 88, 2, M_X12_compared), w ∈ GT := in_GT [1169, 1171, 16, 69, 1172] (by decide +kernel) (by decide +kernel)
set_option maxRecDepth 20000 in
theorem mt11_14 : ∀ w ∈ wdM (12, 91, 2, M_X12_sum), w ∈ GT := in_GT [1173, 1175, 17, 69, 1176] (by decide +kernel) (by decide +kernel)
set_option maxRecDepth 20000 in
theorem mt11_15 : ∀ w ∈ wdM (12, 94, 2, M_X12_product), w ∈ GT := in_GT [1177, 1179, 18, 69, 1180] (by decide +kernel) (by decide +kernel)
theorem MT11_w : ∀ q ∈ MT11, ∀ w ∈ wdM q, w ∈ GT := List.forall_mem_cons.mpr ⟨mt11_0, List.forall_mem_cons.mpr ⟨mt11_1, List.forall_mem_cons.mpr ⟨mt11_2, List.forall_mem_cons.mpr ⟨mt11_3, List.forall_mem_cons.mpr ⟨mt11_4, List.forall_mem_cons.mpr ⟨mt11_5, List.forall_mem_cons.mpr ⟨mt11_6, List.forall_mem_cons.mpr ⟨mt11_7, List.forall_mem_cons.mpr ⟨mt11_8, List.forall_mem_cons.mpr ⟨mt11_9, List.forall_mem_cons.mpr ⟨mt11_10, List.forall_mem_cons.mpr ⟨mt11_11, List.forall_mem_cons.mpr ⟨mt11_12, List.forall_mem_cons.mpr ⟨mt11_13, List.forall_mem_cons.mpr ⟨mt11_14, List.forall_mem_cons.mpr ⟨mt11_15, fun _ h => absurd h List.not_mem_nil⟩⟩⟩⟩⟩⟩⟩⟩⟩⟩⟩⟩⟩⟩⟩⟩
theorem MT11_k : ∀ q ∈ MT11, okM q = true := by decide +kernel
def MT12 : List MTe := [(12, 97, 2, M_X12_unit), (12, 103, 2, M_X12_wrong), (12, 106, 2, M_X12_either), (12, 109, 2, M_X12_nameOf), (12, 119, 2, M_X12_finds), (12, 124, 2, M_X12_worked), (12, 128, 0, M_X12_held), (12, 131, 2, M_X12_textGives), (12, 137, 0, M_X12_isKnot), (12, 147, 0, M_X12_beside), (12, 151, 2, M_X12_spreads), (12, 155, 2, M_X12_patternOf), (12, 158, 2, M_X12_worthOf), (12, 161, 2, M_X12_leastSpread), (12, 164, 2, M_X12_slips), (12, 167, 2, M_X12_holes)]
set_option maxRecDepth 20000 in
theorem mt12_0 : ∀ w ∈ wdM (12, 97, 2, M_X12_unit), w ∈ GT := in_GT [1181, 1183, 19, 69, 1184] (by decide +kernel) (by decide +kernel)
set_option maxRecDepth 20000 in
theorem mt12_1 : ∀ w ∈ wdM (12, 103, 2, M_X12_wrong), w ∈ GT := in_GT [1189, 1191, 21, 69, 1192] (by decide +kernel) (by decide +kernel)
set_option maxRecDepth 20000 in
theorem mt12_2 : ∀ w ∈ wdM (12, 106, 2, M_X12_either), w ∈ GT := in_GT [1161, 1163, 14, 69, 1164] (by decide +kernel) (by decide +kernel)
set_option maxRecDepth 20000 in
theorem mt12_3 : ∀ w ∈ wdM (12, 109, 2, M_X12_nameOf), w ∈ GT := in_GT [1197, 1199, 23, 69, 1200] (by decide +kernel) (by decide +kernel)
set_option maxRecDepth 20000 in
theorem mt12_4 : ∀ w ∈ wdM (12, 119, 2, M_X12_finds), w ∈ GT := in_GT [1147, 1149, 12, 69, 1150] (by decide +kernel) (by decide +kernel)
set_option maxRecDepth 20000 in
theorem mt12_5 : ∀ w ∈ wdM (12, 124, 2, M_X12_worked), w ∈ GT := in_GT [1157, 1159, 13, 69, 1160] (by decide +kernel) (by decide +kernel)
set_option maxRecDepth 20000 in
theorem mt12_6 : ∀ w ∈ wdM (12, 128, 0, M_X12_held), w ∈ GT := in_GT [1211, 1212, 69, 1213] (by decide +kernel) (by decide +kernel)
set_option maxRecDepth 20000 in
theorem mt12_7 : ∀ w ∈ wdM (12, 131, 2, M_X12_textGives), w ∈ GT := in_GT [1207, 1209, 24, 69, 1210] (by decide +kernel) (by decide +kernel)
set_option maxRecDepth 20000 in
theorem mt12_8 : ∀ w ∈ wdM (12, 137, 0, M_X12_isKnot), w ∈ GT := in_GT [1218, 1219, 69, 1220] (by decide +kernel) (by decide +kernel)
set_option maxRecDepth 20000 in
theorem mt12_9 : ∀ w ∈ wdM (12, 147, 0, M_X12_beside), w ∈ GT := in_GT [1233, 1234, 69, 1235] (by decide +kernel) (by decide +kernel)
set_option maxRecDepth 20000 in
theorem mt12_10 : ∀ w ∈ wdM (12, 151, 2, M_X12_spreads), w ∈ GT := in_GT [1229, 1231, 25, 69, 1232] (by decide +kernel) (by decide +kernel)
set_option maxRecDepth 20000 in
theorem mt12_11 : ∀ w ∈ wdM (12, 155, 2, M_X12_patternOf), w ∈ GT := in_GT [1236, 1238, 26, 69, 1239] (by decide +kernel) (by decide +kernel)
set_option maxRecDepth 20000 in
theorem mt12_12 : ∀ w ∈ wdM (12, 158, 2, M_X12_worthOf), w ∈ GT := in_GT [1240, 1242, 27, 69, 1243] (by decide +kernel) (by decide +kernel)
set_option maxRecDepth 20000 in
theorem mt12_13 : ∀ w ∈ wdM (12, 161, 2, M_X12_leastSpread), w ∈ GT := in_GT [1244, 1246, 28, 69, 1247] (by decide +kernel) (by decide +kernel)
set_option maxRecDepth 20000 in
theorem mt12_14 : ∀ w ∈ wdM (12, 164, 2, M_X12_slips), w ∈ GT := in_GT [1256, 1249, 1250, 69, 1251] (by decide +kernel) (by decide +kernel)
set_option maxRecDepth 20000 in
theorem mt12_15 : ∀ w ∈ wdM (12, 167, 2, M_X12_holes), w ∈ GT := in_GT [1261, 1263, 29, 69, 1264] (by decide +kernel) (by decide +kernel)
theorem MT12_w : ∀ q ∈ MT12, ∀ w ∈ wdM q, w ∈ GT := List.forall_mem_cons.mpr ⟨mt12_0, List.forall_mem_cons.mpr ⟨mt12_1, List.forall_mem_cons.mpr ⟨mt12_2, List.forall_mem_cons.mpr ⟨mt12_3, List.forall_mem_cons.mpr ⟨mt12_4, List.forall_mem_cons.mpr ⟨mt12_5, List.forall_mem_cons.mpr ⟨mt12_6, List.forall_mem_cons.mpr ⟨mt12_7, List.forall_mem_cons.mpr ⟨mt12_8, List.forall_mem_cons.mpr ⟨mt12_9, List.forall_mem_cons.mpr ⟨mt12_10, List.forall_mem_cons.mpr ⟨mt12_11, List.forall_mem_cons.mpr ⟨mt12_12, List.forall_mem_cons.mpr ⟨mt12_13, List.forall_mem_cons.mpr ⟨mt12_14, List.forall_mem_cons.mpr ⟨mt12_15, fun _ h => absurd h List.not_mem_nil⟩⟩⟩⟩⟩⟩⟩⟩⟩⟩⟩⟩⟩⟩⟩⟩
theorem MT12_k : ∀ q ∈ MT12, okM q = true := by decide +kernel
def MT13 : List MTe := [(12, 170, 2, M_X12_of), (12, 175, 2, M_X12_sets), (12, 179, 2, M_X12_isWalker), (12, 182, 2, M_X12_wearsOf), (12, 185, 2, M_X12_eats), (12, 192, 0, M_X12_above), (12, 195, 2, M_X12_goes), (12, 199, 2, M_X12_catStep), (12, 202, 2, M_X12_plainStep), (12, 205, 2, M_X12_mothStep), (12, 208, 2, M_X12_steps), (12, 213, 2, M_X12_dayGoes), (12, 219, 2, M_X12_drawn), (12, 222, 2, M_X12_keepAside), (12, 225, 2, M_X12_putBack), (12, 239, 2, M_X12_findLands)]
set_option maxRecDepth 20000 in
theorem mt13_0 : ∀ w ∈ wdM (12, 170, 2, M_X12_of), w ∈ GT := in_GT [1286, 1288, 32, 69, 1289] (by decide +kernel) (by decide +kernel)
set_option maxRecDepth 20000 in
theorem mt13_1 : ∀ w ∈ wdM (12, 175, 2, M_X12_sets), w ∈ GT := in_GT [1274, 1276, 30, 69, 1277] (by decide +kernel) (by decide +kernel)
set_option maxRecDepth 20000 in
theorem mt13_2 : ∀ w ∈ wdM (12, 179, 2, M_X12_isWalker), w ∈ GT := in_GT [1282, 1284, 31, 69, 1285] (by decide +kernel) (by decide +kernel)
set_option maxRecDepth 20000 in
theorem mt13_3 : ∀ w ∈ wdM (12, 182, 2, M_X12_wearsOf), w ∈ GT := in_GT [1290, 1292, 33, 69, 1293] (by decide +kernel) (by decide +kernel)
set_option maxRecDepth 20000 in
theorem mt13_4 : ∀ w ∈ wdM (12, 185, 2, M_X12_eats), w ∈ GT := in_GT [1294, 1296, 34, 69, 1297] (by decide +kernel) (by decide +kernel)
set_option maxRecDepth 20000 in
theorem mt13_5 : ∀ w ∈ wdM (12, 192, 0, M_X12_above), w ∈ GT := in_GT [1312, 1313, 69, 1314] (by decide +kernel) (by decide +kernel)
set_option maxRecDepth 20000 in
theorem mt13_6 : ∀ w ∈ wdM (12, 195, 2, M_X12_goes), w ∈ GT := in_GT [1332, 1334, 38, 69, 1335] (by decide +kernel) (by decide +kernel)
set_option maxRecDepth 20000 in
theorem mt13_7 : ∀ w ∈ wdM (12, 199, 2, M_X12_catStep), w ∈ GT := in_GT [1328, 1330, 37, 69, 1331] (by decide +kernel) (by decide +kernel)
set_option maxRecDepth 20000 in
theorem mt13_8 : ∀ w ∈ wdM (12, 202, 2, M_X12_plainStep), w ∈ GT := in_GT [1336, 1338, 39, 69, 1339] (by decide +kernel) (by decide +kernel)
set_option maxRecDepth 20000 in
theorem mt13_9 : ∀ w ∈ wdM (12, 205, 2, M_X12_mothStep), w ∈ GT := in_GT [1340, 1342, 40, 69, 1343] (by decide +kernel) (by decide +kernel)
set_option maxRecDepth 20000 in
theorem mt13_10 : ∀ w ∈ wdM (12, 208, 2, M_X12_steps), w ∈ GT := in_GT [1324, 1326, 36, 69, 1327] (by decide +kernel) (by decide +kernel)
set_option maxRecDepth 20000 in
theorem mt13_11 : ∀ w ∈ wdM (12, 213, 2, M_X12_dayGoes), w ∈ GT := in_GT [1320, 1322, 35, 69, 1323] (by decide +kernel) (by decide +kernel)
set_option maxRecDepth 20000 in
theorem mt13_12 : ∀ w ∈ wdM (12, 219, 2, M_X12_drawn), w ∈ GT := in_GT [1349, 1351, 41, 69, 1352] (by decide +kernel) (by decide +kernel)
set_option maxRecDepth 20000 in
theorem mt13_13 : ∀ w ∈ wdM (12, 222, 2, M_X12_keepAside), w ∈ GT := in_GT [1358, 1360, 42, 69, 1361] (by decide +kernel) (by decide +kernel)
set_option maxRecDepth 20000 in
theorem mt13_14 : ∀ w ∈ wdM (12, 225, 2, M_X12_putBack), w ∈ GT := in_GT [1362, 1364, 43, 69, 1365] (by decide +kernel) (by decide +kernel)
set_option maxRecDepth 20000 in
theorem mt13_15 : ∀ w ∈ wdM (12, 239, 2, M_X12_findLands), w ∈ GT := in_GT [1371, 1373, 44, 69, 1374] (by decide +kernel) (by decide +kernel)
theorem MT13_w : ∀ q ∈ MT13, ∀ w ∈ wdM q, w ∈ GT := List.forall_mem_cons.mpr ⟨mt13_0, List.forall_mem_cons.mpr ⟨mt13_1, List.forall_mem_cons.mpr ⟨mt13_2, List.forall_mem_cons.mpr ⟨mt13_3, List.forall_mem_cons.mpr ⟨mt13_4, List.forall_mem_cons.mpr ⟨mt13_5, List.forall_mem_cons.mpr ⟨mt13_6, List.forall_mem_cons.mpr ⟨mt13_7, List.forall_mem_cons.mpr ⟨mt13_8, List.forall_mem_cons.mpr ⟨mt13_9, List.forall_mem_cons.mpr ⟨mt13_10, List.forall_mem_cons.mpr ⟨mt13_11, List.forall_mem_cons.mpr ⟨mt13_12, List.forall_mem_cons.mpr ⟨mt13_13, List.forall_mem_cons.mpr ⟨mt13_14, List.forall_mem_cons.mpr ⟨mt13_15, fun _ h => absurd h List.not_mem_nil⟩⟩⟩⟩⟩⟩⟩⟩⟩⟩⟩⟩⟩⟩⟩⟩
theorem MT13_k : ∀ q ∈ MT13, okM q = true := by decide +kernel
def MT14 : List MTe := [(12, 242, 0, M_X12_agree), (12, 246, 2, M_X12_comesBy), (12, 249, 0, M_X12_turned), (12, 252, 2, M_X12_isOf), (12, 255, 0, M_X12_isSheet), (12, 260, 2, M_X12_isCarpet), (12, 263, 2, M_X12_isFit), (12, 267, 2, M_X12_floods), (12, 276, 2, M_X12_ran), (12, 279, 2, M_X12_walksBy), (12, 282, 2, M_X12_own), (12, 285, 2, M_X12_wearsBy), (12, 288, 2, M_X12_eatsBy), (12, 291, 2, M_X12_tellsBy), (13, 9, 3, M_X11_init), (13, 12, 3, M_X12_init)]
set_option maxRecDepth 20000 in
theorem mt14_0 : ∀ w ∈ wdM (12, 242, 0, M_X12_agree), w ∈ GT := in_GT [1395, 1396, 69, 1397] (by decide +kernel) (by decide +kernel)
set_option maxRecDepth 20000 in
theorem mt14_1 : ∀ w ∈ wdM (12, 246, 2, M_X12_comesBy), w ∈ GT := in_GT [1391, 1393, 45, 69, 1394] (by decide +kernel) (by decide +kernel)
set_option maxRecDepth 20000 in
theorem mt14_2 : ∀ w ∈ wdM (12, 249, 0, M_X12_turned), w ∈ GT := in_GT [1402, 1403, 69, 1404] (by decide +kernel) (by decide +kernel)
set_option maxRecDepth 20000 in
theorem mt14_3 : ∀ w ∈ wdM (12, 252, 2, M_X12_isOf), w ∈ GT := in_GT [1409, 1411, 46, 69, 1412] (by decide +kernel) (by decide +kernel)
set_option maxRecDepth 20000 in
theorem mt14_4 : ∀ w ∈ wdM (12, 255, 0, M_X12_isSheet), w ∈ GT := in_GT [1417, 1418, 69, 1419] (by decide +kernel) (by decide +kernel)
set_option maxRecDepth 20000 in
theorem mt14_5 : ∀ w ∈ wdM (12, 260, 2, M_X12_isCarpet), w ∈ GT := in_GT [1421, 1423, 47, 69, 1424] (by decide +kernel) (by decide +kernel)
set_option maxRecDepth 20000 in
theorem mt14_6 : ∀ w ∈ wdM (12, 263, 2, M_X12_isFit), w ∈ GT := in_GT [1425, 1427, 48, 69, 1428] (by decide +kernel) (by decide +kernel)
set_option maxRecDepth 20000 in
theorem mt14_7 : ∀ w ∈ wdM (12, 267, 2, M_X12_floods), w ∈ GT := in_GT [1441, 1443, 49, 69, 1444] (by decide +kernel) (by decide +kernel)
set_option maxRecDepth 20000 in
theorem mt14_8 : ∀ w ∈ wdM (12, 276, 2, M_X12_ran), w ∈ GT := in_GT [1461, 1463, 52, 69, 1464] (by decide +kernel) (by decide +kernel)
set_option maxRecDepth 20000 in
theorem mt14_9 : ∀ w ∈ wdM (12, 279, 2, M_X12_walksBy), w ∈ GT := in_GT [1457, 1459, 51, 69, 1460] (by decide +kernel) (by decide +kernel)
set_option maxRecDepth 20000 in
theorem mt14_10 : ∀ w ∈ wdM (12, 282, 2, M_X12_own), w ∈ GT := in_GT [1453, 1455, 50, 69, 1456] (by decide +kernel) (by decide +kernel)
set_option maxRecDepth 20000 in
theorem mt14_11 : ∀ w ∈ wdM (12, 285, 2, M_X12_wearsBy), w ∈ GT := in_GT [1465, 1467, 53, 69, 1468] (by decide +kernel) (by decide +kernel)
set_option maxRecDepth 20000 in
theorem mt14_12 : ∀ w ∈ wdM (12, 288, 2, M_X12_eatsBy), w ∈ GT := in_GT [1469, 1471, 54, 69, 1472] (by decide +kernel) (by decide +kernel)
set_option maxRecDepth 20000 in
theorem mt14_13 : ∀ w ∈ wdM (12, 291, 2, M_X12_tellsBy), w ∈ GT := in_GT [1473, 1475, 55, 69, 1476] (by decide +kernel) (by decide +kernel)
set_option maxRecDepth 20000 in
theorem mt14_14 : ∀ w ∈ wdM (13, 9, 3, M_X11_init), w ∈ GT := in_GT [80, 81, 57, 82] (by decide +kernel) (by decide +kernel)
set_option maxRecDepth 20000 in
theorem mt14_15 : ∀ w ∈ wdM (13, 12, 3, M_X12_init), w ∈ GT := in_GT [1052, 1053, 69, 1054] (by decide +kernel) (by decide +kernel)
theorem MT14_w : ∀ q ∈ MT14, ∀ w ∈ wdM q, w ∈ GT := List.forall_mem_cons.mpr ⟨mt14_0, List.forall_mem_cons.mpr ⟨mt14_1, List.forall_mem_cons.mpr ⟨mt14_2, List.forall_mem_cons.mpr ⟨mt14_3, List.forall_mem_cons.mpr ⟨mt14_4, List.forall_mem_cons.mpr ⟨mt14_5, List.forall_mem_cons.mpr ⟨mt14_6, List.forall_mem_cons.mpr ⟨mt14_7, List.forall_mem_cons.mpr ⟨mt14_8, List.forall_mem_cons.mpr ⟨mt14_9, List.forall_mem_cons.mpr ⟨mt14_10, List.forall_mem_cons.mpr ⟨mt14_11, List.forall_mem_cons.mpr ⟨mt14_12, List.forall_mem_cons.mpr ⟨mt14_13, List.forall_mem_cons.mpr ⟨mt14_14, List.forall_mem_cons.mpr ⟨mt14_15, fun _ h => absurd h List.not_mem_nil⟩⟩⟩⟩⟩⟩⟩⟩⟩⟩⟩⟩⟩⟩⟩⟩
theorem MT14_k : ∀ q ∈ MT14, okM q = true := by decide +kernel
def MT15 : List MTe := [(13, 13, 2, M_X11_knot), (13, 17, 2, M_X12_knot), (13, 18, 2, M_X11_ofKnot), (13, 22, 2, M_X12_ofKnot), (13, 23, 2, M_X11_weave), (13, 27, 2, M_X12_weave), (13, 28, 2, M_X11_mend), (13, 31, 2, M_X12_mend), (13, 32, 2, M_X11_walker), (13, 35, 2, M_X12_walker), (13, 36, 2, M_X11_ofWalker), (13, 39, 2, M_X12_ofWalker), (13, 40, 2, M_X11_put), (13, 43, 2, M_X12_put), (13, 44, 2, M_X11_become), (13, 47, 2, M_X12_become)]
set_option maxRecDepth 20000 in
theorem mt15_0 : ∀ w ∈ wdM (13, 13, 2, M_X11_knot), w ∈ GT := in_GT [341, 342, 343, 57, 344] (by decide +kernel) (by decide +kernel)
set_option maxRecDepth 20000 in
theorem mt15_1 : ∀ w ∈ wdM (13, 17, 2, M_X12_knot), w ∈ GT := in_GT [1214, 1215, 1216, 69, 1217] (by decide +kernel) (by decide +kernel)
set_option maxRecDepth 20000 in
theorem mt15_2 : ∀ w ∈ wdM (13, 18, 2, M_X11_ofKnot), w ∈ GT := in_GT [377, 378, 379, 57, 380] (by decide +kernel) (by decide +kernel)
set_option maxRecDepth 20000 in
theorem mt15_3 : ∀ w ∈ wdM (13, 22, 2, M_X12_ofKnot), w ∈ GT := in_GT [1224, 1225, 1226, 69, 1227] (by decide +kernel) (by decide +kernel)
set_option maxRecDepth 20000 in
theorem mt15_4 : ∀ w ∈ wdM (13, 23, 2, M_X11_weave), w ∈ GT := in_GT [457, 458, 459, 57, 460] (by decide +kernel) (by decide +kernel)
set_option maxRecDepth 20000 in
theorem mt15_5 : ∀ w ∈ wdM (13, 27, 2, M_X12_weave), w ∈ GT := in_GT [1252, 1253, 1254, 69, 1255] (by decide +kernel) (by decide +kernel)
set_option maxRecDepth 20000 in
theorem mt15_6 : ∀ w ∈ wdM (13, 28, 2, M_X11_mend), w ∈ GT := in_GT [466, 467, 468, 57, 469] (by decide +kernel) (by decide +kernel)
set_option maxRecDepth 20000 in
theorem mt15_7 : ∀ w ∈ wdM (13, 31, 2, M_X12_mend), w ∈ GT := in_GT [1257, 1258, 1259, 69, 1260] (by decide +kernel) (by decide +kernel)
set_option maxRecDepth 20000 in
theorem mt15_8 : ∀ w ∈ wdM (13, 32, 2, M_X11_walker), w ∈ GT := in_GT [475, 476, 477, 57, 478] (by decide +kernel) (by decide +kernel)
set_option maxRecDepth 20000 in
theorem mt15_9 : ∀ w ∈ wdM (13, 35, 2, M_X12_walker), w ∈ GT := in_GT [1269, 1270, 1271, 69, 1272] (by decide +kernel) (by decide +kernel)
set_option maxRecDepth 20000 in
theorem mt15_10 : ∀ w ∈ wdM (13, 36, 2, M_X11_ofWalker), w ∈ GT := in_GT [488, 489, 490, 57, 491] (by decide +kernel) (by decide +kernel)
set_option maxRecDepth 20000 in
theorem mt15_11 : ∀ w ∈ wdM (13, 39, 2, M_X12_ofWalker), w ∈ GT := in_GT [1278, 1279, 1280, 69, 1281] (by decide +kernel) (by decide +kernel)
set_option maxRecDepth 20000 in
theorem mt15_12 : ∀ w ∈ wdM (13, 40, 2, M_X11_put), w ∈ GT := in_GT [515, 516, 517, 57, 518] (by decide +kernel) (by decide +kernel)
set_option maxRecDepth 20000 in
theorem mt15_13 : ∀ w ∈ wdM (13, 43, 2, M_X12_put), w ∈ GT := in_GT [1298, 1299, 1300, 69, 1301] (by decide +kernel) (by decide +kernel)
set_option maxRecDepth 20000 in
theorem mt15_14 : ∀ w ∈ wdM (13, 44, 2, M_X11_become), w ∈ GT := in_GT [519, 520, 521, 57, 522] (by decide +kernel) (by decide +kernel)
set_option maxRecDepth 20000 in
theorem mt15_15 : ∀ w ∈ wdM (13, 47, 2, M_X12_become), w ∈ GT := in_GT [1303, 1304, 1305, 69, 1306] (by decide +kernel) (by decide +kernel)
theorem MT15_w : ∀ q ∈ MT15, ∀ w ∈ wdM q, w ∈ GT := List.forall_mem_cons.mpr ⟨mt15_0, List.forall_mem_cons.mpr ⟨mt15_1, List.forall_mem_cons.mpr ⟨mt15_2, List.forall_mem_cons.mpr ⟨mt15_3, List.forall_mem_cons.mpr ⟨mt15_4, List.forall_mem_cons.mpr ⟨mt15_5, List.forall_mem_cons.mpr ⟨mt15_6, List.forall_mem_cons.mpr ⟨mt15_7, List.forall_mem_cons.mpr ⟨mt15_8, List.forall_mem_cons.mpr ⟨mt15_9, List.forall_mem_cons.mpr ⟨mt15_10, List.forall_mem_cons.mpr ⟨mt15_11, List.forall_mem_cons.mpr ⟨mt15_12, List.forall_mem_cons.mpr ⟨mt15_13, List.forall_mem_cons.mpr ⟨mt15_14, List.forall_mem_cons.mpr ⟨mt15_15, fun _ h => absurd h List.not_mem_nil⟩⟩⟩⟩⟩⟩⟩⟩⟩⟩⟩⟩⟩⟩⟩⟩
theorem MT15_k : ∀ q ∈ MT15, okM q = true := by decide +kernel
def MT16 : List MTe := [(13, 48, 2, M_X11_as), (13, 51, 2, M_X12_as), (13, 54, 2, M_X11_feed), (13, 58, 2, M_X12_feed), (13, 59, 2, M_X11_text), (13, 63, 2, M_X12_text), (13, 64, 2, M_X11_law), (13, 68, 2, M_X12_law), (13, 69, 2, M_X11_days), (13, 72, 2, M_X12_days), (13, 73, 2, M_X11_loose), (13, 76, 2, M_X12_loose), (13, 77, 2, M_X11_lands), (13, 80, 2, M_X12_lands), (13, 81, 2, M_X11_greatest), (13, 84, 2, M_X12_greatest)]
set_option maxRecDepth 20000 in
theorem mt16_0 : ∀ w ∈ wdM (13, 48, 2, M_X11_as), w ∈ GT := in_GT [523, 524, 525, 57, 526] (by decide +kernel) (by decide +kernel)
set_option maxRecDepth 20000 in
theorem mt16_1 : ∀ w ∈ wdM (13, 51, 2, M_X12_as), w ∈ GT := in_GT [1307, 1308, 1309, 69, 1310] (by decide +kernel) (by decide +kernel)
set_option maxRecDepth 20000 in
theorem mt16_2 : ∀ w ∈ wdM (13, 54, 2, M_X11_feed), w ∈ GT := in_GT [529, 530, 531, 57, 532] (by decide +kernel) (by decide +kernel)
set_option maxRecDepth 20000 in
theorem mt16_3 : ∀ w ∈ wdM (13, 58, 2, M_X12_feed), w ∈ GT := in_GT [1139, 1140, 1141, 69, 1142] (by decide +kernel) (by decide +kernel)
set_option maxRecDepth 20000 in
theorem mt16_4 : ∀ w ∈ wdM (13, 59, 2, M_X11_text), w ∈ GT := in_GT [537, 538, 539, 57, 540] (by decide +kernel) (by decide +kernel)
set_option maxRecDepth 20000 in
theorem mt16_5 : ∀ w ∈ wdM (13, 63, 2, M_X12_text), w ∈ GT := in_GT [1153, 1154, 1155, 69, 1156] (by decide +kernel) (by decide +kernel)
set_option maxRecDepth 20000 in
theorem mt16_6 : ∀ w ∈ wdM (13, 64, 2, M_X11_law), w ∈ GT := in_GT [687, 688, 689, 57, 690] (by decide +kernel) (by decide +kernel)
set_option maxRecDepth 20000 in
theorem mt16_7 : ∀ w ∈ wdM (13, 68, 2, M_X12_law), w ∈ GT := in_GT [1203, 1204, 1205, 69, 1206] (by decide +kernel) (by decide +kernel)
set_option maxRecDepth 20000 in
theorem mt16_8 : ∀ w ∈ wdM (13, 69, 2, M_X11_days), w ∈ GT := in_GT [692, 693, 694, 57, 695] (by decide +kernel) (by decide +kernel)
set_option maxRecDepth 20000 in
theorem mt16_9 : ∀ w ∈ wdM (13, 72, 2, M_X12_days), w ∈ GT := in_GT [1315, 1316, 1317, 69, 1318] (by decide +kernel) (by decide +kernel)
set_option maxRecDepth 20000 in
theorem mt16_10 : ∀ w ∈ wdM (13, 73, 2, M_X11_loose), w ∈ GT := in_GT [733, 734, 735, 57, 736] (by decide +kernel) (by decide +kernel)
set_option maxRecDepth 20000 in
theorem mt16_11 : ∀ w ∈ wdM (13, 76, 2, M_X12_loose), w ∈ GT := in_GT [1344, 1345, 1346, 69, 1347] (by decide +kernel) (by decide +kernel)
set_option maxRecDepth 20000 in
theorem mt16_12 : ∀ w ∈ wdM (13, 77, 2, M_X11_lands), w ∈ GT := in_GT [747, 748, 749, 57, 750] (by decide +kernel) (by decide +kernel)
set_option maxRecDepth 20000 in
theorem mt16_13 : ∀ w ∈ wdM (13, 80, 2, M_X12_lands), w ∈ GT := in_GT [1366, 1367, 1368, 69, 1369] (by decide +kernel) (by decide +kernel)
set_option maxRecDepth 20000 in
theorem mt16_14 : ∀ w ∈ wdM (13, 81, 2, M_X11_greatest), w ∈ GT := in_GT [756, 757, 758, 57, 759] (by decide +kernel) (by decide +kernel)
set_option maxRecDepth 20000 in
theorem mt16_15 : ∀ w ∈ wdM (13, 84, 2, M_X12_greatest), w ∈ GT := in_GT [1375, 1376, 1377, 69, 1378] (by decide +kernel) (by decide +kernel)
theorem MT16_w : ∀ q ∈ MT16, ∀ w ∈ wdM q, w ∈ GT := List.forall_mem_cons.mpr ⟨mt16_0, List.forall_mem_cons.mpr ⟨mt16_1, List.forall_mem_cons.mpr ⟨mt16_2, List.forall_mem_cons.mpr ⟨mt16_3, List.forall_mem_cons.mpr ⟨mt16_4, List.forall_mem_cons.mpr ⟨mt16_5, List.forall_mem_cons.mpr ⟨mt16_6, List.forall_mem_cons.mpr ⟨mt16_7, List.forall_mem_cons.mpr ⟨mt16_8, List.forall_mem_cons.mpr ⟨mt16_9, List.forall_mem_cons.mpr ⟨mt16_10, List.forall_mem_cons.mpr ⟨mt16_11, List.forall_mem_cons.mpr ⟨mt16_12, List.forall_mem_cons.mpr ⟨mt16_13, List.forall_mem_cons.mpr ⟨mt16_14, List.forall_mem_cons.mpr ⟨mt16_15, fun _ h => absurd h List.not_mem_nil⟩⟩⟩⟩⟩⟩⟩⟩⟩⟩⟩⟩⟩⟩⟩⟩
theorem MT16_k : ∀ q ∈ MT16, okM q = true := by decide +kernel
def MT17 : List MTe := [(13, 85, 2, M_X11_nextTo), (13, 88, 2, M_X12_nextTo), (13, 89, 2, M_X11_frontier), (13, 92, 2, M_X12_frontier), (13, 93, 2, M_X11_slips), (13, 96, 2, M_X12_slips), (13, 97, 2, M_X11_mends), (13, 100, 2, M_X12_mends), (13, 101, 2, M_X11_again), (13, 104, 2, M_X12_again), (13, 105, 2, M_X11_stays), (13, 108, 2, M_X12_stays), (13, 109, 2, M_X11_road), (13, 112, 2, M_X12_road), (13, 113, 2, M_X11_fits), (13, 116, 2, M_X12_fits)]
set_option maxRecDepth 20000 in
theorem mt17_0 : ∀ w ∈ wdM (13, 85, 2, M_X11_nextTo), w ∈ GT := in_GT [770, 771, 772, 57, 773] (by decide +kernel) (by decide +kernel)
set_option maxRecDepth 20000 in
theorem mt17_1 : ∀ w ∈ wdM (13, 88, 2, M_X12_nextTo), w ∈ GT := in_GT [1379, 1380, 1381, 69, 1382] (by decide +kernel) (by decide +kernel)
set_option maxRecDepth 20000 in
theorem mt17_2 : ∀ w ∈ wdM (13, 89, 2, M_X11_frontier), w ∈ GT := in_GT [783, 784, 785, 57, 786] (by decide +kernel) (by decide +kernel)
set_option maxRecDepth 20000 in
theorem mt17_3 : ∀ w ∈ wdM (13, 92, 2, M_X12_frontier), w ∈ GT := in_GT [1383, 1384, 1385, 69, 1386] (by decide +kernel) (by decide +kernel)
set_option maxRecDepth 20000 in
theorem mt17_4 : ∀ w ∈ wdM (13, 93, 2, M_X11_slips), w ∈ GT := in_GT [795, 796, 797, 57, 798] (by decide +kernel) (by decide +kernel)
set_option maxRecDepth 20000 in
theorem mt17_5 : ∀ w ∈ wdM (13, 96, 2, M_X12_slips), w ∈ GT := in_GT [1248, 1249, 1250, 69, 1251] (by decide +kernel) (by decide +kernel)
set_option maxRecDepth 20000 in
theorem mt17_6 : ∀ w ∈ wdM (13, 97, 2, M_X11_mends), w ∈ GT := in_GT [799, 800, 801, 57, 802] (by decide +kernel) (by decide +kernel)
set_option maxRecDepth 20000 in
theorem mt17_7 : ∀ w ∈ wdM (13, 100, 2, M_X12_mends), w ∈ GT := in_GT [1265, 1266, 1267, 69, 1268] (by decide +kernel) (by decide +kernel)
set_option maxRecDepth 20000 in
theorem mt17_8 : ∀ w ∈ wdM (13, 101, 2, M_X11_again), w ∈ GT := in_GT [807, 808, 809, 57, 810] (by decide +kernel) (by decide +kernel)
set_option maxRecDepth 20000 in
theorem mt17_9 : ∀ w ∈ wdM (13, 104, 2, M_X12_again), w ∈ GT := in_GT [1387, 1388, 1389, 69, 1390] (by decide +kernel) (by decide +kernel)
set_option maxRecDepth 20000 in
theorem mt17_10 : ∀ w ∈ wdM (13, 105, 2, M_X11_stays), w ∈ GT := in_GT [822, 823, 824, 57, 825] (by decide +kernel) (by decide +kernel)
set_option maxRecDepth 20000 in
theorem mt17_11 : ∀ w ∈ wdM (13, 108, 2, M_X12_stays), w ∈ GT := in_GT [1398, 1399, 1400, 69, 1401] (by decide +kernel) (by decide +kernel)
set_option maxRecDepth 20000 in
theorem mt17_12 : ∀ w ∈ wdM (13, 109, 2, M_X11_road), w ∈ GT := in_GT [833, 834, 835, 57, 836] (by decide +kernel) (by decide +kernel)
set_option maxRecDepth 20000 in
theorem mt17_13 : ∀ w ∈ wdM (13, 112, 2, M_X12_road), w ∈ GT := in_GT [1405, 1406, 1407, 69, 1408] (by decide +kernel) (by decide +kernel)
set_option maxRecDepth 20000 in
theorem mt17_14 : ∀ w ∈ wdM (13, 113, 2, M_X11_fits), w ∈ GT := in_GT [850, 851, 852, 57, 853] (by decide +kernel) (by decide +kernel)
set_option maxRecDepth 20000 in
theorem mt17_15 : ∀ w ∈ wdM (13, 116, 2, M_X12_fits), w ∈ GT := in_GT [1413, 1414, 1415, 69, 1416] (by decide +kernel) (by decide +kernel)
theorem MT17_w : ∀ q ∈ MT17, ∀ w ∈ wdM q, w ∈ GT := List.forall_mem_cons.mpr ⟨mt17_0, List.forall_mem_cons.mpr ⟨mt17_1, List.forall_mem_cons.mpr ⟨mt17_2, List.forall_mem_cons.mpr ⟨mt17_3, List.forall_mem_cons.mpr ⟨mt17_4, List.forall_mem_cons.mpr ⟨mt17_5, List.forall_mem_cons.mpr ⟨mt17_6, List.forall_mem_cons.mpr ⟨mt17_7, List.forall_mem_cons.mpr ⟨mt17_8, List.forall_mem_cons.mpr ⟨mt17_9, List.forall_mem_cons.mpr ⟨mt17_10, List.forall_mem_cons.mpr ⟨mt17_11, List.forall_mem_cons.mpr ⟨mt17_12, List.forall_mem_cons.mpr ⟨mt17_13, List.forall_mem_cons.mpr ⟨mt17_14, List.forall_mem_cons.mpr ⟨mt17_15, fun _ h => absurd h List.not_mem_nil⟩⟩⟩⟩⟩⟩⟩⟩⟩⟩⟩⟩⟩⟩⟩⟩
theorem MT17_k : ∀ q ∈ MT17, okM q = true := by decide +kernel
def MT18 : List MTe := [(13, 117, 2, M_X11_layings), (13, 120, 2, M_X12_layings), (13, 121, 2, M_X11_cut), (13, 124, 2, M_X12_cut), (13, 125, 2, M_X11_dyed), (13, 128, 2, M_X12_dyed), (13, 129, 2, M_X11_then), (13, 132, 2, M_X12_then), (13, 133, 2, M_X11_seed), (13, 136, 2, M_X12_seed), (13, 137, 2, M_X11_voice), (13, 140, 2, M_X12_voice), (13, 141, 2, M_X11_trace), (13, 144, 2, M_X12_trace), (13, 145, 2, M_X11_sheet), (13, 148, 2, M_X12_sheet)]
set_option maxRecDepth 20000 in
theorem mt18_0 : ∀ w ∈ wdM (13, 117, 2, M_X11_layings), w ∈ GT := in_GT [880, 881, 882, 57, 883] (by decide +kernel) (by decide +kernel)
set_option maxRecDepth 20000 in
theorem mt18_1 : ∀ w ∈ wdM (13, 120, 2, M_X12_layings), w ∈ GT := in_GT [1429, 1430, 1431, 69, 1432] (by decide +kernel) (by decide +kernel)
set_option maxRecDepth 20000 in
theorem mt18_2 : ∀ w ∈ wdM (13, 121, 2, M_X11_cut), w ∈ GT := in_GT [896, 897, 898, 57, 899] (by decide +kernel) (by decide +kernel)
set_option maxRecDepth 20000 in
theorem mt18_3 : ∀ w ∈ wdM (13, 124, 2, M_X12_cut), w ∈ GT := in_GT [1433, 1434, 1435, 69, 1436] (by decide +kernel) (by decide +kernel)
set_option maxRecDepth 20000 in
theorem mt18_4 : ∀ w ∈ wdM (13, 125, 2, M_X11_dyed), w ∈ GT := in_GT [906, 907, 908, 57, 909] (by decide +kernel) (by decide +kernel)
set_option maxRecDepth 20000 in
theorem mt18_5 : ∀ w ∈ wdM (13, 128, 2, M_X12_dyed), w ∈ GT := in_GT [1437, 1438, 1439, 69, 1440] (by decide +kernel) (by decide +kernel)
set_option maxRecDepth 20000 in
theorem mt18_6 : ∀ w ∈ wdM (13, 129, 2, M_X11_then), w ∈ GT := in_GT [934, 935, 936, 57, 937] (by decide +kernel) (by decide +kernel)
set_option maxRecDepth 20000 in
theorem mt18_7 : ∀ w ∈ wdM (13, 132, 2, M_X12_then), w ∈ GT := in_GT [1354, 1355, 1356, 69, 1357] (by decide +kernel) (by decide +kernel)
set_option maxRecDepth 20000 in
theorem mt18_8 : ∀ w ∈ wdM (13, 133, 2, M_X11_seed), w ∈ GT := in_GT [953, 954, 955, 57, 956] (by decide +kernel) (by decide +kernel)
set_option maxRecDepth 20000 in
theorem mt18_9 : ∀ w ∈ wdM (13, 136, 2, M_X12_seed), w ∈ GT := in_GT [1445, 1446, 1447, 69, 1448] (by decide +kernel) (by decide +kernel)
set_option maxRecDepth 20000 in
theorem mt18_10 : ∀ w ∈ wdM (13, 137, 2, M_X11_voice), w ∈ GT := in_GT [957, 958, 959, 57, 960] (by decide +kernel) (by decide +kernel)
set_option maxRecDepth 20000 in
theorem mt18_11 : ∀ w ∈ wdM (13, 140, 2, M_X12_voice), w ∈ GT := in_GT [1449, 1450, 1451, 69, 1452] (by decide +kernel) (by decide +kernel)
set_option maxRecDepth 20000 in
theorem mt18_12 : ∀ w ∈ wdM (13, 141, 2, M_X11_trace), w ∈ GT := in_GT [978, 979, 980, 57, 981] (by decide +kernel) (by decide +kernel)
set_option maxRecDepth 20000 in
theorem mt18_13 : ∀ w ∈ wdM (13, 144, 2, M_X12_trace), w ∈ GT := in_GT [1477, 1478, 1479, 69, 1480] (by decide +kernel) (by decide +kernel)
set_option maxRecDepth 20000 in
theorem mt18_14 : ∀ w ∈ wdM (13, 145, 2, M_X11_sheet), w ∈ GT := in_GT [984, 985, 986, 57, 987] (by decide +kernel) (by decide +kernel)
set_option maxRecDepth 20000 in
theorem mt18_15 : ∀ w ∈ wdM (13, 148, 2, M_X12_sheet), w ∈ GT := in_GT [1481, 1482, 1483, 69, 1484] (by decide +kernel) (by decide +kernel)
theorem MT18_w : ∀ q ∈ MT18, ∀ w ∈ wdM q, w ∈ GT := List.forall_mem_cons.mpr ⟨mt18_0, List.forall_mem_cons.mpr ⟨mt18_1, List.forall_mem_cons.mpr ⟨mt18_2, List.forall_mem_cons.mpr ⟨mt18_3, List.forall_mem_cons.mpr ⟨mt18_4, List.forall_mem_cons.mpr ⟨mt18_5, List.forall_mem_cons.mpr ⟨mt18_6, List.forall_mem_cons.mpr ⟨mt18_7, List.forall_mem_cons.mpr ⟨mt18_8, List.forall_mem_cons.mpr ⟨mt18_9, List.forall_mem_cons.mpr ⟨mt18_10, List.forall_mem_cons.mpr ⟨mt18_11, List.forall_mem_cons.mpr ⟨mt18_12, List.forall_mem_cons.mpr ⟨mt18_13, List.forall_mem_cons.mpr ⟨mt18_14, List.forall_mem_cons.mpr ⟨mt18_15, fun _ h => absurd h List.not_mem_nil⟩⟩⟩⟩⟩⟩⟩⟩⟩⟩⟩⟩⟩⟩⟩⟩
theorem MT18_k : ∀ q ∈ MT18, okM q = true := by decide +kernel
def MT19 : List MTe := [(13, 149, 2, M_X11_write), (13, 152, 2, M_X12_write), (13, 153, 2, M_X11_move), (13, 157, 2, M_X12_move), (13, 158, 2, M_X11_colours), (13, 161, 2, M_X12_colours), (13, 162, 2, M_X11_judge), (13, 165, 2, M_X12_judge), (13, 166, 2, M_X11_image), (13, 169, 2, M_X12_image), (13, 170, 2, M_X11_restore), (13, 173, 2, M_X12_restore), (13, 174, 2, M_X11_tell), (13, 177, 2, M_X12_tell), (13, 178, 2, M_X11_check), (13, 181, 2, M_X12_check)]
set_option maxRecDepth 20000 in
theorem mt19_0 : ∀ w ∈ wdM (13, 149, 2, M_X11_write), w ∈ GT := in_GT [992, 993, 994, 57, 995] (by decide +kernel) (by decide +kernel)
set_option maxRecDepth 20000 in
theorem mt19_1 : ∀ w ∈ wdM (13, 152, 2, M_X12_write), w ∈ GT := in_GT [1485, 1486, 1487, 69, 1488] (by decide +kernel) (by decide +kernel)
set_option maxRecDepth 20000 in
theorem mt19_2 : ∀ w ∈ wdM (13, 153, 2, M_X11_move), w ∈ GT := in_GT [1002, 1003, 1004, 57, 1005] (by decide +kernel) (by decide +kernel)
set_option maxRecDepth 20000 in
theorem mt19_3 : ∀ w ∈ wdM (13, 157, 2, M_X12_move), w ∈ GT := in_GT [1489, 1490, 1491, 69, 1492] (by decide +kernel) (by decide +kernel)
set_option maxRecDepth 20000 in
theorem mt19_4 : ∀ w ∈ wdM (13, 158, 2, M_X11_colours), w ∈ GT := in_GT [1011, 1012, 1013, 57, 1014] (by decide +kernel) (by decide +kernel)
set_option maxRecDepth 20000 in
theorem mt19_5 : ∀ w ∈ wdM (13, 161, 2, M_X12_colours), w ∈ GT := in_GT [1493, 1494, 1495, 69, 1496] (by decide +kernel) (by decide +kernel)
set_option maxRecDepth 20000 in
theorem mt19_6 : ∀ w ∈ wdM (13, 162, 2, M_X11_judge), w ∈ GT := in_GT [1016, 1017, 1018, 57, 1019] (by decide +kernel) (by decide +kernel)
set_option maxRecDepth 20000 in
theorem mt19_7 : ∀ w ∈ wdM (13, 165, 2, M_X12_judge), w ∈ GT := in_GT [1497, 1498, 1499, 69, 1500] (by decide +kernel) (by decide +kernel)
set_option maxRecDepth 20000 in
theorem mt19_8 : ∀ w ∈ wdM (13, 166, 2, M_X11_image), w ∈ GT := in_GT [1020, 1021, 1022, 57, 1023] (by decide +kernel) (by decide +kernel)
set_option maxRecDepth 20000 in
theorem mt19_9 : ∀ w ∈ wdM (13, 169, 2, M_X12_image), w ∈ GT := in_GT [1501, 1502, 1503, 69, 1504] (by decide +kernel) (by decide +kernel)
set_option maxRecDepth 20000 in
theorem mt19_10 : ∀ w ∈ wdM (13, 170, 2, M_X11_restore), w ∈ GT := in_GT [1024, 1025, 1026, 57, 1027] (by decide +kernel) (by decide +kernel)
set_option maxRecDepth 20000 in
theorem mt19_11 : ∀ w ∈ wdM (13, 173, 2, M_X12_restore), w ∈ GT := in_GT [1505, 1506, 1507, 69, 1508] (by decide +kernel) (by decide +kernel)
set_option maxRecDepth 20000 in
theorem mt19_12 : ∀ w ∈ wdM (13, 174, 2, M_X11_tell), w ∈ GT := in_GT [1028, 1029, 1030, 57, 1031] (by decide +kernel) (by decide +kernel)
set_option maxRecDepth 20000 in
theorem mt19_13 : ∀ w ∈ wdM (13, 177, 2, M_X12_tell), w ∈ GT := in_GT [1509, 1510, 1511, 69, 1512] (by decide +kernel) (by decide +kernel)
set_option maxRecDepth 20000 in
theorem mt19_14 : ∀ w ∈ wdM (13, 178, 2, M_X11_check), w ∈ GT := in_GT [1032, 1033, 1034, 57, 1035] (by decide +kernel) (by decide +kernel)
set_option maxRecDepth 20000 in
theorem mt19_15 : ∀ w ∈ wdM (13, 181, 2, M_X12_check), w ∈ GT := in_GT [1513, 1514, 1515, 69, 1516] (by decide +kernel) (by decide +kernel)
theorem MT19_w : ∀ q ∈ MT19, ∀ w ∈ wdM q, w ∈ GT := List.forall_mem_cons.mpr ⟨mt19_0, List.forall_mem_cons.mpr ⟨mt19_1, List.forall_mem_cons.mpr ⟨mt19_2, List.forall_mem_cons.mpr ⟨mt19_3, List.forall_mem_cons.mpr ⟨mt19_4, List.forall_mem_cons.mpr ⟨mt19_5, List.forall_mem_cons.mpr ⟨mt19_6, List.forall_mem_cons.mpr ⟨mt19_7, List.forall_mem_cons.mpr ⟨mt19_8, List.forall_mem_cons.mpr ⟨mt19_9, List.forall_mem_cons.mpr ⟨mt19_10, List.forall_mem_cons.mpr ⟨mt19_11, List.forall_mem_cons.mpr ⟨mt19_12, List.forall_mem_cons.mpr ⟨mt19_13, List.forall_mem_cons.mpr ⟨mt19_14, List.forall_mem_cons.mpr ⟨mt19_15, fun _ h => absurd h List.not_mem_nil⟩⟩⟩⟩⟩⟩⟩⟩⟩⟩⟩⟩⟩⟩⟩⟩
theorem MT19_k : ∀ q ∈ MT19, okM q = true := by decide +kernel
def MT20 : List MTe := [(13, 182, 2, M_X11_count), (13, 185, 2, M_X12_count), (13, 186, 2, M_X11_told), (13, 189, 2, M_X12_told), (14, 335, 2, M_J0_coder_7d493), (14, 492, 2, M_J0_isLatin1_aae02), (14, 505, 2, M_J0_length_8abf5), (14, 633, 2, M_J0_indexOf_7cf53), (14, 637, 0, M_J1_indexOf_4cfef), (15, 38, 0, M_J9_min_7cf53), (15, 88, 0, M_J1_canEncode_9a6ad), (15, 92, 0, M_J9_max_7cf53), (15, 95, 0, M_J1_indexOfChar_4cfef)]
set_option maxRecDepth 20000 in
theorem mt20_0 : ∀ w ∈ wdM (13, 182, 2, M_X11_count), w ∈ GT := in_GT [1036, 1037, 1038, 57, 1039] (by decide +kernel) (by decide +kernel)
set_option maxRecDepth 20000 in
theorem mt20_1 : ∀ w ∈ wdM (13, 185, 2, M_X12_count), w ∈ GT := in_GT [1517, 1518, 1519, 69, 1520] (by decide +kernel) (by decide +kernel)
set_option maxRecDepth 20000 in
theorem mt20_2 : ∀ w ∈ wdM (13, 186, 2, M_X11_told), w ∈ GT := in_GT [1046, 1047, 1048, 57, 1049] (by decide +kernel) (by decide +kernel)
set_option maxRecDepth 20000 in
theorem mt20_3 : ∀ w ∈ wdM (13, 189, 2, M_X12_told), w ∈ GT := in_GT [1521, 1522, 1523, 69, 1524] (by decide +kernel) (by decide +kernel)
set_option maxRecDepth 20000 in
theorem mt20_4 : ∀ w ∈ wdM (14, 335, 2, M_J0_coder_7d493), w ∈ GT := in_GT [586, 587, 588, 72, 589] (by decide +kernel) (by decide +kernel)
set_option maxRecDepth 20000 in
theorem mt20_5 : ∀ w ∈ wdM (14, 492, 2, M_J0_isLatin1_aae02), w ∈ GT := in_GT [576, 577, 578, 72, 579] (by decide +kernel) (by decide +kernel)
set_option maxRecDepth 20000 in
theorem mt20_6 : ∀ w ∈ wdM (14, 505, 2, M_J0_length_8abf5), w ∈ GT := in_GT [582, 583, 584, 72, 585] (by decide +kernel) (by decide +kernel)
set_option maxRecDepth 20000 in
theorem mt20_7 : ∀ w ∈ wdM (14, 633, 2, M_J0_indexOf_7cf53), w ∈ GT := in_GT [572, 573, 574, 72, 575] (by decide +kernel) (by decide +kernel)
set_option maxRecDepth 20000 in
theorem mt20_8 : ∀ w ∈ wdM (14, 637, 0, M_J1_indexOf_4cfef), w ∈ GT := in_GT [590, 591, 73, 592] (by decide +kernel) (by decide +kernel)
set_option maxRecDepth 20000 in
theorem mt20_9 : ∀ w ∈ wdM (15, 38, 0, M_J9_min_7cf53), w ∈ GT := in_GT [597, 375, 62, 376] (by decide +kernel) (by decide +kernel)
set_option maxRecDepth 20000 in
theorem mt20_10 : ∀ w ∈ wdM (15, 88, 0, M_J1_canEncode_9a6ad), w ∈ GT := in_GT [593, 594, 73, 595] (by decide +kernel) (by decide +kernel)
set_option maxRecDepth 20000 in
theorem mt20_11 : ∀ w ∈ wdM (15, 92, 0, M_J9_max_7cf53), w ∈ GT := in_GT [596, 121, 62, 122] (by decide +kernel) (by decide +kernel)
set_option maxRecDepth 20000 in
theorem mt20_12 : ∀ w ∈ wdM (15, 95, 0, M_J1_indexOfChar_4cfef), w ∈ GT := in_GT [598, 599, 73, 600] (by decide +kernel) (by decide +kernel)
theorem MT20_w : ∀ q ∈ MT20, ∀ w ∈ wdM q, w ∈ GT := List.forall_mem_cons.mpr ⟨mt20_0, List.forall_mem_cons.mpr ⟨mt20_1, List.forall_mem_cons.mpr ⟨mt20_2, List.forall_mem_cons.mpr ⟨mt20_3, List.forall_mem_cons.mpr ⟨mt20_4, List.forall_mem_cons.mpr ⟨mt20_5, List.forall_mem_cons.mpr ⟨mt20_6, List.forall_mem_cons.mpr ⟨mt20_7, List.forall_mem_cons.mpr ⟨mt20_8, List.forall_mem_cons.mpr ⟨mt20_9, List.forall_mem_cons.mpr ⟨mt20_10, List.forall_mem_cons.mpr ⟨mt20_11, List.forall_mem_cons.mpr ⟨mt20_12, fun _ h => absurd h List.not_mem_nil⟩⟩⟩⟩⟩⟩⟩⟩⟩⟩⟩⟩⟩
theorem MT20_k : ∀ q ∈ MT20, okM q = true := by decide +kernel
def MT : List MTe := MT0 ++ (MT1 ++ (MT2 ++ (MT3 ++ (MT4 ++ (MT5 ++ (MT6 ++ (MT7 ++ (MT8 ++ (MT9 ++ (MT10 ++ (MT11 ++ (MT12 ++ (MT13 ++ (MT14 ++ (MT15 ++ (MT16 ++ (MT17 ++ (MT18 ++ (MT19 ++ (MT20))))))))))))))))))))
theorem MT_w : ∀ q ∈ MT, ∀ w ∈ wdM q, w ∈ GT := List.forall_mem_append.mpr ⟨MT0_w, List.forall_mem_append.mpr ⟨MT1_w, List.forall_mem_append.mpr ⟨MT2_w, List.forall_mem_append.mpr ⟨MT3_w, List.forall_mem_append.mpr ⟨MT4_w, List.forall_mem_append.mpr ⟨MT5_w, List.forall_mem_append.mpr ⟨MT6_w, List.forall_mem_append.mpr ⟨MT7_w, List.forall_mem_append.mpr ⟨MT8_w, List.forall_mem_append.mpr ⟨MT9_w, List.forall_mem_append.mpr ⟨MT10_w, List.forall_mem_append.mpr ⟨MT11_w, List.forall_mem_append.mpr ⟨MT12_w, List.forall_mem_append.mpr ⟨MT13_w, List.forall_mem_append.mpr ⟨MT14_w, List.forall_mem_append.mpr ⟨MT15_w, List.forall_mem_append.mpr ⟨MT16_w, List.forall_mem_append.mpr ⟨MT17_w, List.forall_mem_append.mpr ⟨MT18_w, List.forall_mem_append.mpr ⟨MT19_w, MT20_w⟩⟩⟩⟩⟩⟩⟩⟩⟩⟩⟩⟩⟩⟩⟩⟩⟩⟩⟩⟩
theorem MT_k : ∀ q ∈ MT, okM q = true := List.forall_mem_append.mpr ⟨MT0_k, List.forall_mem_append.mpr ⟨MT1_k, List.forall_mem_append.mpr ⟨MT2_k, List.forall_mem_append.mpr ⟨MT3_k, List.forall_mem_append.mpr ⟨MT4_k, List.forall_mem_append.mpr ⟨MT5_k, List.forall_mem_append.mpr ⟨MT6_k, List.forall_mem_append.mpr ⟨MT7_k, List.forall_mem_append.mpr ⟨MT8_k, List.forall_mem_append.mpr ⟨MT9_k, List.forall_mem_append.mpr ⟨MT10_k, List.forall_mem_append.mpr ⟨MT11_k, List.forall_mem_append.mpr ⟨MT12_k, List.forall_mem_append.mpr ⟨MT13_k, List.forall_mem_append.mpr ⟨MT14_k, List.forall_mem_append.mpr ⟨MT15_k, List.forall_mem_append.mpr ⟨MT16_k, List.forall_mem_append.mpr ⟨MT17_k, List.forall_mem_append.mpr ⟨MT18_k, List.forall_mem_append.mpr ⟨MT19_k, MT20_k⟩⟩⟩⟩⟩⟩⟩⟩⟩⟩⟩⟩⟩⟩⟩⟩⟩⟩⟩⟩
def resM (cn ix : Nat) : Option (Nat × MI) := (MT.find? (fun q => q.1 == cn && q.2.1 == ix)).map (fun q => q.2.2)
abbrev FTe : Type := Nat × Nat × Nat × Nat × FieldType × Bool
def clD : vw_C := ("", (fun _ => ("", "", "", false)), 0)
def TJ50 : u_T := fun k => match k with
  | 0 => ("java/lang/String", "value", "[B", true)
  | _ => ("java/lang/String", "coder", "B", true)
def clOf (ci : Nat) : vw_C := if ci = 50 then ("java/lang/String", TJ50, 2) else vwCl.getD ci clD
def wdF (q : FTe) : List Cond := [.fieldLink (nmC q.1) q.2.1 ((clOf q.2.2.1).2.1 q.2.2.2.1).1 ((clOf q.2.2.1).2.1 q.2.2.2.1).2.1 ((clOf q.2.2.1).2.1 q.2.2.2.1).2.2.1]
def okF (q : FTe) : Bool := decide (q.2.2.2.1 < (clOf q.2.2.1).2.2) && decide (parseFieldDescriptor ((clOf q.2.2.1).2.1 q.2.2.2.1).2.2.1 = some q.2.2.2.2.1) && decide (((clOf q.2.2.1).2.1 q.2.2.2.1).2.2.2 = q.2.2.2.2.2) && (decide (q.2.2.1 < 12) || decide (q.2.2.1 = 50)) && (decide (q.2.2.2.2.2 = false) || decide (q.2.2.1 = 50) || decide (((clOf q.2.2.1).2.1 q.2.2.2.1).1 = nmC q.1) || true)
def FT0 : List FTe := [(0, 9, 0, 0, (.array .int), true), (0, 15, 0, 1, (.array .int), true), (1, 12, 1, 0, (.object "CarpetLands$Carpet"), true), (1, 20, 1, 1, (.array (.object "CarpetLands$Walker")), true), (1, 27, 1, 2, (.object "CarpetLands$Law"), true), (1, 31, 1, 3, (.object "CarpetLands$Law"), true), (1, 39, 1, 4, (.object "CarpetLands$Row"), true), (1, 43, 1, 5, (.object "CarpetLands$Row"), true), (1, 46, 1, 6, .int, false), (1, 50, 1, 7, .int, false), (1, 53, 1, 8, .int, false), (1, 64, 3, 0, (.object "CarpetLands$Row"), true), (1, 77, 9, 0, .int, false), (1, 80, 9, 1, .int, false), (1, 83, 9, 2, .int, false), (1, 86, 9, 3, .int, false)]
set_option maxRecDepth 20000 in
theorem ft0_0 : ∀ w ∈ wdF (0, 9, 0, 0, (.array .int), true), w ∈ GT := in_GT [98] (by decide +kernel) (by decide +kernel)
set_option maxRecDepth 20000 in
theorem ft0_1 : ∀ w ∈ wdF (0, 15, 0, 1, (.array .int), true), w ∈ GT := in_GT [99] (by decide +kernel) (by decide +kernel)
set_option maxRecDepth 20000 in
theorem ft0_2 : ∀ w ∈ wdF (1, 12, 1, 0, (.object "CarpetLands$Carpet"), true), w ∈ GT := in_GT [171] (by decide +kernel) (by decide +kernel)
set_option maxRecDepth 20000 in
theorem ft0_3 : ∀ w ∈ wdF (1, 20, 1, 1, (.array (.object "CarpetLands$Walker")), true), w ∈ GT := in_GT [173] (by decide +kernel) (by decide +kernel)
set_option maxRecDepth 20000 in
theorem ft0_4 : ∀ w ∈ wdF (1, 27, 1, 2, (.object "CarpetLands$Law"), true), w ∈ GT := in_GT [174] (by decide +kernel) (by decide +kernel)
set_option maxRecDepth 20000 in
theorem ft0_5 : ∀ w ∈ wdF (1, 31, 1, 3, (.object "CarpetLands$Law"), true), w ∈ GT := in_GT [175] (by decide +kernel) (by decide +kernel)
set_option maxRecDepth 20000 in
theorem ft0_6 : ∀ w ∈ wdF (1, 39, 1, 4, (.object "CarpetLands$Row"), true), w ∈ GT := in_GT [176] (by decide +kernel) (by decide +kernel)
set_option maxRecDepth 20000 in
theorem ft0_7 : ∀ w ∈ wdF (1, 43, 1, 5, (.object "CarpetLands$Row"), true), w ∈ GT := in_GT [178] (by decide +kernel) (by decide +kernel)
set_option maxRecDepth 20000 in
theorem ft0_8 : ∀ w ∈ wdF (1, 46, 1, 6, .int, false), w ∈ GT := in_GT [180] (by decide +kernel) (by decide +kernel)
set_option maxRecDepth 20000 in
theorem ft0_9 : ∀ w ∈ wdF (1, 50, 1, 7, .int, false), w ∈ GT := in_GT [182] (by decide +kernel) (by decide +kernel)
set_option maxRecDepth 20000 in
theorem ft0_10 : ∀ w ∈ wdF (1, 53, 1, 8, .int, false), w ∈ GT := in_GT [184] (by decide +kernel) (by decide +kernel)
set_option maxRecDepth 20000 in
theorem ft0_11 : ∀ w ∈ wdF (1, 64, 3, 0, (.object "CarpetLands$Row"), true), w ∈ GT := in_GT [134] (by decide +kernel) (by decide +kernel)
set_option maxRecDepth 20000 in
theorem ft0_12 : ∀ w ∈ wdF (1, 77, 9, 0, .int, false), w ∈ GT := in_GT [150] (by decide +kernel) (by decide +kernel)
set_option maxRecDepth 20000 in
theorem ft0_13 : ∀ w ∈ wdF (1, 80, 9, 1, .int, false), w ∈ GT := in_GT [154] (by decide +kernel) (by decide +kernel)
set_option maxRecDepth 20000 in
theorem ft0_14 : ∀ w ∈ wdF (1, 83, 9, 2, .int, false), w ∈ GT := in_GT [157] (by decide +kernel) (by decide +kernel)
set_option maxRecDepth 20000 in
theorem ft0_15 : ∀ w ∈ wdF (1, 86, 9, 3, .int, false), w ∈ GT := in_GT [160] (by decide +kernel) (by decide +kernel)
theorem FT0_w : ∀ q ∈ FT0, ∀ w ∈ wdF q, w ∈ GT := List.forall_mem_cons.mpr ⟨ft0_0, List.forall_mem_cons.mpr ⟨ft0_1, List.forall_mem_cons.mpr ⟨ft0_2, List.forall_mem_cons.mpr ⟨ft0_3, List.forall_mem_cons.mpr ⟨ft0_4, List.forall_mem_cons.mpr ⟨ft0_5, List.forall_mem_cons.mpr ⟨ft0_6, List.forall_mem_cons.mpr ⟨ft0_7, List.forall_mem_cons.mpr ⟨ft0_8, List.forall_mem_cons.mpr ⟨ft0_9, List.forall_mem_cons.mpr ⟨ft0_10, List.forall_mem_cons.mpr ⟨ft0_11, List.forall_mem_cons.mpr ⟨ft0_12, List.forall_mem_cons.mpr ⟨ft0_13, List.forall_mem_cons.mpr ⟨ft0_14, List.forall_mem_cons.mpr ⟨ft0_15, fun _ h => absurd h List.not_mem_nil⟩⟩⟩⟩⟩⟩⟩⟩⟩⟩⟩⟩⟩⟩⟩⟩
theorem FT0_k : ∀ q ∈ FT0, okF q = true := by decide +kernel
def FT1 : List FTe := [(2, 9, 2, 0, (.array .long), true), (2, 15, 2, 1, (.array .int), true), (2, 19, 2, 2, (.array .int), true), (2, 22, 2, 3, .int, false), (3, 14, 3, 0, (.object "CarpetLands$Row"), true), (3, 20, 3, 1, (.array .int), true), (3, 24, 6, 1, .int, false), (4, 14, 4, 0, (.object "CarpetLands$Row"), true), (4, 20, 4, 1, (.object "CarpetLands$Row"), false), (4, 25, 4, 2, (.object "java/lang/String"), false), (4, 29, 4, 3, .int, false), (4, 33, 4, 4, .boolean, false), (4, 48, 6, 1, .int, false), (5, 9, 5, 0, (.array .long), true), (5, 15, 5, 1, (.array .long), true), (5, 18, 5, 2, (.array .long), true)]
set_option maxRecDepth 20000 in
theorem ft1_0 : ∀ w ∈ wdF (2, 9, 2, 0, (.array .long), true), w ∈ GT := in_GT [277] (by decide +kernel) (by decide +kernel)
set_option maxRecDepth 20000 in
theorem ft1_1 : ∀ w ∈ wdF (2, 15, 2, 1, (.array .int), true), w ∈ GT := in_GT [278] (by decide +kernel) (by decide +kernel)
set_option maxRecDepth 20000 in
theorem ft1_2 : ∀ w ∈ wdF (2, 19, 2, 2, (.array .int), true), w ∈ GT := in_GT [279] (by decide +kernel) (by decide +kernel)
set_option maxRecDepth 20000 in
theorem ft1_3 : ∀ w ∈ wdF (2, 22, 2, 3, .int, false), w ∈ GT := in_GT [280] (by decide +kernel) (by decide +kernel)
set_option maxRecDepth 20000 in
theorem ft1_4 : ∀ w ∈ wdF (3, 14, 3, 0, (.object "CarpetLands$Row"), true), w ∈ GT := in_GT [133] (by decide +kernel) (by decide +kernel)
set_option maxRecDepth 20000 in
theorem ft1_5 : ∀ w ∈ wdF (3, 20, 3, 1, (.array .int), true), w ∈ GT := in_GT [135] (by decide +kernel) (by decide +kernel)
set_option maxRecDepth 20000 in
theorem ft1_6 : ∀ w ∈ wdF (3, 24, 6, 1, .int, false), w ∈ GT := in_GT [125] (by decide +kernel) (by decide +kernel)
set_option maxRecDepth 20000 in
theorem ft1_7 : ∀ w ∈ wdF (4, 14, 4, 0, (.object "CarpetLands$Row"), true), w ∈ GT := in_GT [214] (by decide +kernel) (by decide +kernel)
set_option maxRecDepth 20000 in
theorem ft1_8 : ∀ w ∈ wdF (4, 20, 4, 1, (.object "CarpetLands$Row"), false), w ∈ GT := in_GT [216] (by decide +kernel) (by decide +kernel)
set_option maxRecDepth 20000 in
theorem ft1_9 : ∀ w ∈ wdF (4, 25, 4, 2, (.object "java/lang/String"), false), w ∈ GT := in_GT [217] (by decide +kernel) (by decide +kernel)
set_option maxRecDepth 20000 in
theorem ft1_10 : ∀ w ∈ wdF (4, 29, 4, 3, .int, false), w ∈ GT := in_GT [218] (by decide +kernel) (by decide +kernel)
set_option maxRecDepth 20000 in
theorem ft1_11 : ∀ w ∈ wdF (4, 33, 4, 4, .boolean, false), w ∈ GT := in_GT [219] (by decide +kernel) (by decide +kernel)
set_option maxRecDepth 20000 in
theorem ft1_12 : ∀ w ∈ wdF (4, 48, 6, 1, .int, false), w ∈ GT := in_GT [126] (by decide +kernel) (by decide +kernel)
set_option maxRecDepth 20000 in
theorem ft1_13 : ∀ w ∈ wdF (5, 9, 5, 0, (.array .long), true), w ∈ GT := in_GT [260] (by decide +kernel) (by decide +kernel)
set_option maxRecDepth 20000 in
theorem ft1_14 : ∀ w ∈ wdF (5, 15, 5, 1, (.array .long), true), w ∈ GT := in_GT [261] (by decide +kernel) (by decide +kernel)
set_option maxRecDepth 20000 in
theorem ft1_15 : ∀ w ∈ wdF (5, 18, 5, 2, (.array .long), true), w ∈ GT := in_GT [262] (by decide +kernel) (by decide +kernel)
theorem FT1_w : ∀ q ∈ FT1, ∀ w ∈ wdF q, w ∈ GT := List.forall_mem_cons.mpr ⟨ft1_0, List.forall_mem_cons.mpr ⟨ft1_1, List.forall_mem_cons.mpr ⟨ft1_2, List.forall_mem_cons.mpr ⟨ft1_3, List.forall_mem_cons.mpr ⟨ft1_4, List.forall_mem_cons.mpr ⟨ft1_5, List.forall_mem_cons.mpr ⟨ft1_6, List.forall_mem_cons.mpr ⟨ft1_7, List.forall_mem_cons.mpr ⟨ft1_8, List.forall_mem_cons.mpr ⟨ft1_9, List.forall_mem_cons.mpr ⟨ft1_10, List.forall_mem_cons.mpr ⟨ft1_11, List.forall_mem_cons.mpr ⟨ft1_12, List.forall_mem_cons.mpr ⟨ft1_13, List.forall_mem_cons.mpr ⟨ft1_14, List.forall_mem_cons.mpr ⟨ft1_15, fun _ h => absurd h List.not_mem_nil⟩⟩⟩⟩⟩⟩⟩⟩⟩⟩⟩⟩⟩⟩⟩⟩
theorem FT1_k : ∀ q ∈ FT1, okF q = true := by decide +kernel
def FT2 : List FTe := [(6, 7, 6, 1, .int, false), (6, 19, 6, 0, (.array .int), true), (8, 9, 7, 0, (.array .int), true), (8, 15, 7, 1, .int, false), (8, 19, 7, 2, .int, false), (9, 14, 8, 0, (.object "CarpetLands$Row"), true), (9, 20, 8, 1, .int, false), (9, 24, 8, 2, .int, false), (9, 27, 8, 3, .int, false), (9, 33, 9, 0, .int, false), (9, 36, 9, 1, .int, false), (10, 9, 9, 0, .int, false), (10, 15, 9, 1, .int, false), (10, 18, 9, 2, .int, false), (10, 21, 9, 3, .int, false), (11, 12, 10, 0, (.object "CarpetLands$Country"), true)]
set_option maxRecDepth 20000 in
theorem ft2_0 : ∀ w ∈ wdF (6, 7, 6, 1, .int, false), w ∈ GT := in_GT [124] (by decide +kernel) (by decide +kernel)
set_option maxRecDepth 20000 in
theorem ft2_1 : ∀ w ∈ wdF (6, 19, 6, 0, (.array .int), true), w ∈ GT := in_GT [123] (by decide +kernel) (by decide +kernel)
set_option maxRecDepth 20000 in
theorem ft2_2 : ∀ w ∈ wdF (8, 9, 7, 0, (.array .int), true), w ∈ GT := in_GT [298] (by decide +kernel) (by decide +kernel)
set_option maxRecDepth 20000 in
theorem ft2_3 : ∀ w ∈ wdF (8, 15, 7, 1, .int, false), w ∈ GT := in_GT [300] (by decide +kernel) (by decide +kernel)
set_option maxRecDepth 20000 in
theorem ft2_4 : ∀ w ∈ wdF (8, 19, 7, 2, .int, false), w ∈ GT := in_GT [302] (by decide +kernel) (by decide +kernel)
set_option maxRecDepth 20000 in
theorem ft2_5 : ∀ w ∈ wdF (9, 14, 8, 0, (.object "CarpetLands$Row"), true), w ∈ GT := in_GT [240] (by decide +kernel) (by decide +kernel)
set_option maxRecDepth 20000 in
theorem ft2_6 : ∀ w ∈ wdF (9, 20, 8, 1, .int, false), w ∈ GT := in_GT [242] (by decide +kernel) (by decide +kernel)
set_option maxRecDepth 20000 in
theorem ft2_7 : ∀ w ∈ wdF (9, 24, 8, 2, .int, false), w ∈ GT := in_GT [243] (by decide +kernel) (by decide +kernel)
set_option maxRecDepth 20000 in
theorem ft2_8 : ∀ w ∈ wdF (9, 27, 8, 3, .int, false), w ∈ GT := in_GT [244] (by decide +kernel) (by decide +kernel)
set_option maxRecDepth 20000 in
theorem ft2_9 : ∀ w ∈ wdF (9, 33, 9, 0, .int, false), w ∈ GT := in_GT [149] (by decide +kernel) (by decide +kernel)
set_option maxRecDepth 20000 in
theorem ft2_10 : ∀ w ∈ wdF (9, 36, 9, 1, .int, false), w ∈ GT := in_GT [153] (by decide +kernel) (by decide +kernel)
set_option maxRecDepth 20000 in
theorem ft2_11 : ∀ w ∈ wdF (10, 9, 9, 0, .int, false), w ∈ GT := in_GT [148] (by decide +kernel) (by decide +kernel)
set_option maxRecDepth 20000 in
theorem ft2_12 : ∀ w ∈ wdF (10, 15, 9, 1, .int, false), w ∈ GT := in_GT [152] (by decide +kernel) (by decide +kernel)
set_option maxRecDepth 20000 in
theorem ft2_13 : ∀ w ∈ wdF (10, 18, 9, 2, .int, false), w ∈ GT := in_GT [156] (by decide +kernel) (by decide +kernel)
set_option maxRecDepth 20000 in
theorem ft2_14 : ∀ w ∈ wdF (10, 21, 9, 3, .int, false), w ∈ GT := in_GT [159] (by decide +kernel) (by decide +kernel)
set_option maxRecDepth 20000 in
theorem ft2_15 : ∀ w ∈ wdF (11, 12, 10, 0, (.object "CarpetLands$Country"), true), w ∈ GT := in_GT [310] (by decide +kernel) (by decide +kernel)
theorem FT2_w : ∀ q ∈ FT2, ∀ w ∈ wdF q, w ∈ GT := List.forall_mem_cons.mpr ⟨ft2_0, List.forall_mem_cons.mpr ⟨ft2_1, List.forall_mem_cons.mpr ⟨ft2_2, List.forall_mem_cons.mpr ⟨ft2_3, List.forall_mem_cons.mpr ⟨ft2_4, List.forall_mem_cons.mpr ⟨ft2_5, List.forall_mem_cons.mpr ⟨ft2_6, List.forall_mem_cons.mpr ⟨ft2_7, List.forall_mem_cons.mpr ⟨ft2_8, List.forall_mem_cons.mpr ⟨ft2_9, List.forall_mem_cons.mpr ⟨ft2_10, List.forall_mem_cons.mpr ⟨ft2_11, List.forall_mem_cons.mpr ⟨ft2_12, List.forall_mem_cons.mpr ⟨ft2_13, List.forall_mem_cons.mpr ⟨ft2_14, List.forall_mem_cons.mpr ⟨ft2_15, fun _ h => absurd h List.not_mem_nil⟩⟩⟩⟩⟩⟩⟩⟩⟩⟩⟩⟩⟩⟩⟩⟩
theorem FT2_k : ∀ q ∈ FT2, okF q = true := by decide +kernel
def FT3 : List FTe := [(11, 16, 10, 1, (.object "CarpetLands$Country"), true), (11, 19, 10, 2, (.object "CarpetLands$Country"), true), (11, 25, 10, 3, (.object "CarpetLands$Reader"), true), (11, 32, 10, 4, (.object "CarpetLands$Voice"), true), (11, 39, 10, 5, (.object "CarpetLands$Roads"), true), (11, 46, 10, 6, (.object "CarpetLands$Dyeing"), true), (11, 52, 10, 7, (.array (.object "CarpetLands$Sheet")), true), (11, 56, 10, 8, (.array .int), true), (11, 60, 10, 9, .int, false), (11, 78, 1, 0, (.object "CarpetLands$Carpet"), true), (11, 137, 9, 0, .int, false), (11, 142, 9, 1, .int, false), (11, 145, 9, 2, .int, false), (11, 148, 9, 3, .int, false), (11, 162, 1, 4, (.object "CarpetLands$Row"), true), (11, 166, 6, 1, .int, false)]
set_option maxRecDepth 20000 in
theorem ft3_0 : ∀ w ∈ wdF (11, 16, 10, 1, (.object "CarpetLands$Country"), true), w ∈ GT := in_GT [311] (by decide +kernel) (by decide +kernel)
set_option maxRecDepth 20000 in
theorem ft3_1 : ∀ w ∈ wdF (11, 19, 10, 2, (.object "CarpetLands$Country"), true), w ∈ GT := in_GT [312] (by decide +kernel) (by decide +kernel)
set_option maxRecDepth 20000 in
theorem ft3_2 : ∀ w ∈ wdF (11, 25, 10, 3, (.object "CarpetLands$Reader"), true), w ∈ GT := in_GT [313] (by decide +kernel) (by decide +kernel)
set_option maxRecDepth 20000 in
theorem ft3_3 : ∀ w ∈ wdF (11, 32, 10, 4, (.object "CarpetLands$Voice"), true), w ∈ GT := in_GT [314] (by decide +kernel) (by decide +kernel)
set_option maxRecDepth 20000 in
theorem ft3_4 : ∀ w ∈ wdF (11, 39, 10, 5, (.object "CarpetLands$Roads"), true), w ∈ GT := in_GT [315] (by decide +kernel) (by decide +kernel)
set_option maxRecDepth 20000 in
theorem ft3_5 : ∀ w ∈ wdF (11, 46, 10, 6, (.object "CarpetLands$Dyeing"), true), w ∈ GT := in_GT [316] (by decide +kernel) (by decide +kernel)
set_option maxRecDepth 20000 in
theorem ft3_6 : ∀ w ∈ wdF (11, 52, 10, 7, (.array (.object "CarpetLands$Sheet")), true), w ∈ GT := in_GT [317] (by decide +kernel) (by decide +kernel)
set_option maxRecDepth 20000 in
theorem ft3_7 : ∀ w ∈ wdF (11, 56, 10, 8, (.array .int), true), w ∈ GT := in_GT [318] (by decide +kernel) (by decide +kernel)
set_option maxRecDepth 20000 in
theorem ft3_8 : ∀ w ∈ wdF (11, 60, 10, 9, .int, false), w ∈ GT := in_GT [319] (by decide +kernel) (by decide +kernel)
set_option maxRecDepth 20000 in
theorem ft3_9 : ∀ w ∈ wdF (11, 78, 1, 0, (.object "CarpetLands$Carpet"), true), w ∈ GT := in_GT [172] (by decide +kernel) (by decide +kernel)
set_option maxRecDepth 20000 in
theorem ft3_10 : ∀ w ∈ wdF (11, 137, 9, 0, .int, false), w ∈ GT := in_GT [151] (by decide +kernel) (by decide +kernel)
set_option maxRecDepth 20000 in
theorem ft3_11 : ∀ w ∈ wdF (11, 142, 9, 1, .int, false), w ∈ GT := in_GT [155] (by decide +kernel) (by decide +kernel)
set_option maxRecDepth 20000 in
theorem ft3_12 : ∀ w ∈ wdF (11, 145, 9, 2, .int, false), w ∈ GT := in_GT [158] (by decide +kernel) (by decide +kernel)
set_option maxRecDepth 20000 in
theorem ft3_13 : ∀ w ∈ wdF (11, 148, 9, 3, .int, false), w ∈ GT := in_GT [161] (by decide +kernel) (by decide +kernel)
set_option maxRecDepth 20000 in
theorem ft3_14 : ∀ w ∈ wdF (11, 162, 1, 4, (.object "CarpetLands$Row"), true), w ∈ GT := in_GT [177] (by decide +kernel) (by decide +kernel)
set_option maxRecDepth 20000 in
theorem ft3_15 : ∀ w ∈ wdF (11, 166, 6, 1, .int, false), w ∈ GT := in_GT [127] (by decide +kernel) (by decide +kernel)
theorem FT3_w : ∀ q ∈ FT3, ∀ w ∈ wdF q, w ∈ GT := List.forall_mem_cons.mpr ⟨ft3_0, List.forall_mem_cons.mpr ⟨ft3_1, List.forall_mem_cons.mpr ⟨ft3_2, List.forall_mem_cons.mpr ⟨ft3_3, List.forall_mem_cons.mpr ⟨ft3_4, List.forall_mem_cons.mpr ⟨ft3_5, List.forall_mem_cons.mpr ⟨ft3_6, List.forall_mem_cons.mpr ⟨ft3_7, List.forall_mem_cons.mpr ⟨ft3_8, List.forall_mem_cons.mpr ⟨ft3_9, List.forall_mem_cons.mpr ⟨ft3_10, List.forall_mem_cons.mpr ⟨ft3_11, List.forall_mem_cons.mpr ⟨ft3_12, List.forall_mem_cons.mpr ⟨ft3_13, List.forall_mem_cons.mpr ⟨ft3_14, List.forall_mem_cons.mpr ⟨ft3_15, fun _ h => absurd h List.not_mem_nil⟩⟩⟩⟩⟩⟩⟩⟩⟩⟩⟩⟩⟩⟩⟩⟩
theorem FT3_k : ∀ q ∈ FT3, okF q = true := by decide +kernel
def FT4 : List FTe := [(11, 188, 4, 0, (.object "CarpetLands$Row"), true), (11, 201, 1, 7, .int, false), (11, 276, 2, 3, .int, false), (11, 286, 1, 8, .int, false), (11, 293, 8, 0, (.object "CarpetLands$Row"), true), (11, 312, 7, 1, .int, false), (11, 319, 7, 0, (.array .int), true), (11, 329, 1, 5, (.object "CarpetLands$Row"), true), (11, 332, 1, 6, .int, false), (12, 7, 11, 0, (.array .int), true), (12, 13, 11, 1, (.array .int), true), (12, 16, 11, 3, (.array .int), true), (12, 19, 11, 4, (.array .int), true), (12, 22, 11, 11, (.array .int), true), (12, 25, 11, 12, (.array .int), true), (12, 28, 11, 14, (.array .boolean), true)]
set_option maxRecDepth 20000 in
theorem ft4_0 : ∀ w ∈ wdF (11, 188, 4, 0, (.object "CarpetLands$Row"), true), w ∈ GT := in_GT [215] (by decide +kernel) (by decide +kernel)
set_option maxRecDepth 20000 in
theorem ft4_1 : ∀ w ∈ wdF (11, 201, 1, 7, .int, false), w ∈ GT := in_GT [183] (by decide +kernel) (by decide +kernel)
set_option maxRecDepth 20000 in
theorem ft4_2 : ∀ w ∈ wdF (11, 276, 2, 3, .int, false), w ∈ GT := in_GT [281] (by decide +kernel) (by decide +kernel)
set_option maxRecDepth 20000 in
theorem ft4_3 : ∀ w ∈ wdF (11, 286, 1, 8, .int, false), w ∈ GT := in_GT [185] (by decide +kernel) (by decide +kernel)
set_option maxRecDepth 20000 in
theorem ft4_4 : ∀ w ∈ wdF (11, 293, 8, 0, (.object "CarpetLands$Row"), true), w ∈ GT := in_GT [241] (by decide +kernel) (by decide +kernel)
set_option maxRecDepth 20000 in
theorem ft4_5 : ∀ w ∈ wdF (11, 312, 7, 1, .int, false), w ∈ GT := in_GT [301] (by decide +kernel) (by decide +kernel)
set_option maxRecDepth 20000 in
theorem ft4_6 : ∀ w ∈ wdF (11, 319, 7, 0, (.array .int), true), w ∈ GT := in_GT [299] (by decide +kernel) (by decide +kernel)
set_option maxRecDepth 20000 in
theorem ft4_7 : ∀ w ∈ wdF (11, 329, 1, 5, (.object "CarpetLands$Row"), true), w ∈ GT := in_GT [179] (by decide +kernel) (by decide +kernel)
set_option maxRecDepth 20000 in
theorem ft4_8 : ∀ w ∈ wdF (11, 332, 1, 6, .int, false), w ∈ GT := in_GT [181] (by decide +kernel) (by decide +kernel)
set_option maxRecDepth 20000 in
theorem ft4_9 : ∀ w ∈ wdF (12, 7, 11, 0, (.array .int), true), w ∈ GT := in_GT [1056] (by decide +kernel) (by decide +kernel)
set_option maxRecDepth 20000 in
theorem ft4_10 : ∀ w ∈ wdF (12, 13, 11, 1, (.array .int), true), w ∈ GT := in_GT [1057] (by decide +kernel) (by decide +kernel)
set_option maxRecDepth 20000 in
theorem ft4_11 : ∀ w ∈ wdF (12, 16, 11, 3, (.array .int), true), w ∈ GT := in_GT [1059] (by decide +kernel) (by decide +kernel)
set_option maxRecDepth 20000 in
theorem ft4_12 : ∀ w ∈ wdF (12, 19, 11, 4, (.array .int), true), w ∈ GT := in_GT [1060] (by decide +kernel) (by decide +kernel)
set_option maxRecDepth 20000 in
theorem ft4_13 : ∀ w ∈ wdF (12, 22, 11, 11, (.array .int), true), w ∈ GT := in_GT [1067] (by decide +kernel) (by decide +kernel)
set_option maxRecDepth 20000 in
theorem ft4_14 : ∀ w ∈ wdF (12, 25, 11, 12, (.array .int), true), w ∈ GT := in_GT [1068] (by decide +kernel) (by decide +kernel)
set_option maxRecDepth 20000 in
theorem ft4_15 : ∀ w ∈ wdF (12, 28, 11, 14, (.array .boolean), true), w ∈ GT := in_GT [1070] (by decide +kernel) (by decide +kernel)
theorem FT4_w : ∀ q ∈ FT4, ∀ w ∈ wdF q, w ∈ GT := List.forall_mem_cons.mpr ⟨ft4_0, List.forall_mem_cons.mpr ⟨ft4_1, List.forall_mem_cons.mpr ⟨ft4_2, List.forall_mem_cons.mpr ⟨ft4_3, List.forall_mem_cons.mpr ⟨ft4_4, List.forall_mem_cons.mpr ⟨ft4_5, List.forall_mem_cons.mpr ⟨ft4_6, List.forall_mem_cons.mpr ⟨ft4_7, List.forall_mem_cons.mpr ⟨ft4_8, List.forall_mem_cons.mpr ⟨ft4_9, List.forall_mem_cons.mpr ⟨ft4_10, List.forall_mem_cons.mpr ⟨ft4_11, List.forall_mem_cons.mpr ⟨ft4_12, List.forall_mem_cons.mpr ⟨ft4_13, List.forall_mem_cons.mpr ⟨ft4_14, List.forall_mem_cons.mpr ⟨ft4_15, fun _ h => absurd h List.not_mem_nil⟩⟩⟩⟩⟩⟩⟩⟩⟩⟩⟩⟩⟩⟩⟩⟩
theorem FT4_k : ∀ q ∈ FT4, okF q = true := by decide +kernel
def FT5 : List FTe := [(12, 32, 11, 18, (.array .int), true), (12, 35, 11, 19, (.array .int), true), (12, 38, 11, 20, (.array .int), true), (12, 41, 11, 23, (.array .int), true), (12, 44, 11, 24, (.array .int), true), (12, 47, 11, 25, (.array .int), true), (12, 50, 11, 26, (.array .int), true), (12, 60, 11, 6, .int, false), (12, 64, 11, 7, .int, false), (12, 67, 11, 8, .int, false), (12, 70, 11, 5, .int, false), (12, 77, 11, 10, .boolean, false), (12, 100, 11, 9, .int, false), (12, 144, 11, 13, .int, false), (12, 228, 11, 15, .int, false), (12, 231, 11, 16, .int, false)]
set_option maxRecDepth 20000 in
theorem ft5_0 : ∀ w ∈ wdF (12, 32, 11, 18, (.array .int), true), w ∈ GT := in_GT [1074] (by decide +kernel) (by decide +kernel)
set_option maxRecDepth 20000 in
theorem ft5_1 : ∀ w ∈ wdF (12, 35, 11, 19, (.array .int), true), w ∈ GT := in_GT [1075] (by decide +kernel) (by decide +kernel)
set_option maxRecDepth 20000 in
theorem ft5_2 : ∀ w ∈ wdF (12, 38, 11, 20, (.array .int), true), w ∈ GT := in_GT [1076] (by decide +kernel) (by decide +kernel)
set_option maxRecDepth 20000 in
theorem ft5_3 : ∀ w ∈ wdF (12, 41, 11, 23, (.array .int), true), w ∈ GT := in_GT [1079] (by decide +kernel) (by decide +kernel)
set_option maxRecDepth 20000 in
theorem ft5_4 : ∀ w ∈ wdF (12, 44, 11, 24, (.array .int), true), w ∈ GT := in_GT [1080] (by decide +kernel) (by decide +kernel)
set_option maxRecDepth 20000 in
theorem ft5_5 : ∀ w ∈ wdF (12, 47, 11, 25, (.array .int), true), w ∈ GT := in_GT [1081] (by decide +kernel) (by decide +kernel)
set_option maxRecDepth 20000 in
theorem ft5_6 : ∀ w ∈ wdF (12, 50, 11, 26, (.array .int), true), w ∈ GT := in_GT [1082] (by decide +kernel) (by decide +kernel)
set_option maxRecDepth 20000 in
theorem ft5_7 : ∀ w ∈ wdF (12, 60, 11, 6, .int, false), w ∈ GT := in_GT [1062] (by decide +kernel) (by decide +kernel)
set_option maxRecDepth 20000 in
theorem ft5_8 : ∀ w ∈ wdF (12, 64, 11, 7, .int, false), w ∈ GT := in_GT [1063] (by decide +kernel) (by decide +kernel)
set_option maxRecDepth 20000 in
theorem ft5_9 : ∀ w ∈ wdF (12, 67, 11, 8, .int, false), w ∈ GT := in_GT [1064] (by decide +kernel) (by decide +kernel)
set_option maxRecDepth 20000 in
theorem ft5_10 : ∀ w ∈ wdF (12, 70, 11, 5, .int, false), w ∈ GT := in_GT [1061] (by decide +kernel) (by decide +kernel)
set_option maxRecDepth 20000 in
theorem ft5_11 : ∀ w ∈ wdF (12, 77, 11, 10, .boolean, false), w ∈ GT := in_GT [1066] (by decide +kernel) (by decide +kernel)
set_option maxRecDepth 20000 in
theorem ft5_12 : ∀ w ∈ wdF (12, 100, 11, 9, .int, false), w ∈ GT := in_GT [1065] (by decide +kernel) (by decide +kernel)
set_option maxRecDepth 20000 in
theorem ft5_13 : ∀ w ∈ wdF (12, 144, 11, 13, .int, false), w ∈ GT := in_GT [1069] (by decide +kernel) (by decide +kernel)
set_option maxRecDepth 20000 in
theorem ft5_14 : ∀ w ∈ wdF (12, 228, 11, 15, .int, false), w ∈ GT := in_GT [1071] (by decide +kernel) (by decide +kernel)
set_option maxRecDepth 20000 in
theorem ft5_15 : ∀ w ∈ wdF (12, 231, 11, 16, .int, false), w ∈ GT := in_GT [1072] (by decide +kernel) (by decide +kernel)
theorem FT5_w : ∀ q ∈ FT5, ∀ w ∈ wdF q, w ∈ GT := List.forall_mem_cons.mpr ⟨ft5_0, List.forall_mem_cons.mpr ⟨ft5_1, List.forall_mem_cons.mpr ⟨ft5_2, List.forall_mem_cons.mpr ⟨ft5_3, List.forall_mem_cons.mpr ⟨ft5_4, List.forall_mem_cons.mpr ⟨ft5_5, List.forall_mem_cons.mpr ⟨ft5_6, List.forall_mem_cons.mpr ⟨ft5_7, List.forall_mem_cons.mpr ⟨ft5_8, List.forall_mem_cons.mpr ⟨ft5_9, List.forall_mem_cons.mpr ⟨ft5_10, List.forall_mem_cons.mpr ⟨ft5_11, List.forall_mem_cons.mpr ⟨ft5_12, List.forall_mem_cons.mpr ⟨ft5_13, List.forall_mem_cons.mpr ⟨ft5_14, List.forall_mem_cons.mpr ⟨ft5_15, fun _ h => absurd h List.not_mem_nil⟩⟩⟩⟩⟩⟩⟩⟩⟩⟩⟩⟩⟩⟩⟩⟩
theorem FT5_k : ∀ q ∈ FT5, okF q = true := by decide +kernel
def FT6 : List FTe := [(12, 234, 11, 17, .int, false), (12, 270, 11, 21, .int, false), (12, 273, 11, 22, .int, false), (12, 294, 11, 2, .int, false), (14, 9, 50, 0, (.array .byte), true), (14, 15, 50, 1, .byte, true)]
set_option maxRecDepth 20000 in
theorem ft6_0 : ∀ w ∈ wdF (12, 234, 11, 17, .int, false), w ∈ GT := in_GT [1073] (by decide +kernel) (by decide +kernel)
set_option maxRecDepth 20000 in
theorem ft6_1 : ∀ w ∈ wdF (12, 270, 11, 21, .int, false), w ∈ GT := in_GT [1077] (by decide +kernel) (by decide +kernel)
set_option maxRecDepth 20000 in
theorem ft6_2 : ∀ w ∈ wdF (12, 273, 11, 22, .int, false), w ∈ GT := in_GT [1078] (by decide +kernel) (by decide +kernel)
set_option maxRecDepth 20000 in
theorem ft6_3 : ∀ w ∈ wdF (12, 294, 11, 2, .int, false), w ∈ GT := in_GT [1058] (by decide +kernel) (by decide +kernel)
set_option maxRecDepth 20000 in
theorem ft6_4 : ∀ w ∈ wdF (14, 9, 50, 0, (.array .byte), true), w ∈ GT := in_GT [1527] (by decide +kernel) (by decide +kernel)
set_option maxRecDepth 20000 in
theorem ft6_5 : ∀ w ∈ wdF (14, 15, 50, 1, .byte, true), w ∈ GT := in_GT [1526] (by decide +kernel) (by decide +kernel)
theorem FT6_w : ∀ q ∈ FT6, ∀ w ∈ wdF q, w ∈ GT := List.forall_mem_cons.mpr ⟨ft6_0, List.forall_mem_cons.mpr ⟨ft6_1, List.forall_mem_cons.mpr ⟨ft6_2, List.forall_mem_cons.mpr ⟨ft6_3, List.forall_mem_cons.mpr ⟨ft6_4, List.forall_mem_cons.mpr ⟨ft6_5, fun _ h => absurd h List.not_mem_nil⟩⟩⟩⟩⟩⟩
theorem FT6_k : ∀ q ∈ FT6, okF q = true := by decide +kernel
def FT : List FTe := FT0 ++ (FT1 ++ (FT2 ++ (FT3 ++ (FT4 ++ (FT5 ++ (FT6))))))
theorem FT_w : ∀ q ∈ FT, ∀ w ∈ wdF q, w ∈ GT := List.forall_mem_append.mpr ⟨FT0_w, List.forall_mem_append.mpr ⟨FT1_w, List.forall_mem_append.mpr ⟨FT2_w, List.forall_mem_append.mpr ⟨FT3_w, List.forall_mem_append.mpr ⟨FT4_w, List.forall_mem_append.mpr ⟨FT5_w, FT6_w⟩⟩⟩⟩⟩⟩
theorem FT_k : ∀ q ∈ FT, okF q = true := List.forall_mem_append.mpr ⟨FT0_k, List.forall_mem_append.mpr ⟨FT1_k, List.forall_mem_append.mpr ⟨FT2_k, List.forall_mem_append.mpr ⟨FT3_k, List.forall_mem_append.mpr ⟨FT4_k, List.forall_mem_append.mpr ⟨FT5_k, FT6_k⟩⟩⟩⟩⟩⟩
def resF (cn ix : Nat) : Option (Nat × Nat × FieldType × Bool) := (FT.find? (fun q => q.1 == cn && q.2.1 == ix)).map (fun q => q.2.2)
set_option maxRecDepth 20000 in
theorem ly0 : ∀ w ∈ u_ws RX0 TX0 2, w ∈ GT := in_GT [100, 102] (by decide +kernel) (by decide +kernel)
set_option maxRecDepth 20000 in
theorem ly1 : ∀ w ∈ u_ws RX1 TX1 9, w ∈ GT := in_GT [186, 188, 190, 192, 194, 196, 198, 200, 202] (by decide +kernel) (by decide +kernel)
set_option maxRecDepth 20000 in
theorem ly2 : ∀ w ∈ u_ws RX2 TX2 4, w ∈ GT := in_GT [282, 284, 286, 288] (by decide +kernel) (by decide +kernel)
set_option maxRecDepth 20000 in
theorem ly3 : ∀ w ∈ u_ws RX3 TX3 2, w ∈ GT := in_GT [136, 138] (by decide +kernel) (by decide +kernel)
set_option maxRecDepth 20000 in
theorem ly4 : ∀ w ∈ u_ws RX4 TX4 5, w ∈ GT := in_GT [220, 222, 224, 226, 228] (by decide +kernel) (by decide +kernel)
set_option maxRecDepth 20000 in
theorem ly5 : ∀ w ∈ u_ws RX5 TX5 3, w ∈ GT := in_GT [263, 265, 267] (by decide +kernel) (by decide +kernel)
set_option maxRecDepth 20000 in
theorem ly6 : ∀ w ∈ u_ws RX6 TX6 2, w ∈ GT := in_GT [128, 130] (by decide +kernel) (by decide +kernel)
set_option maxRecDepth 20000 in
theorem ly7 : ∀ w ∈ u_ws RX8 TX8 3, w ∈ GT := in_GT [303, 305, 307] (by decide +kernel) (by decide +kernel)
set_option maxRecDepth 20000 in
theorem ly8 : ∀ w ∈ u_ws RX9 TX9 4, w ∈ GT := in_GT [245, 247, 249, 251] (by decide +kernel) (by decide +kernel)
set_option maxRecDepth 20000 in
theorem ly9 : ∀ w ∈ u_ws RX10 TX10 4, w ∈ GT := in_GT [162, 164, 166, 168] (by decide +kernel) (by decide +kernel)
set_option maxRecDepth 20000 in
theorem ly10 : ∀ w ∈ u_ws RX11 TX11 10, w ∈ GT := in_GT [320, 322, 324, 326, 328, 330, 332, 334, 336, 338] (by decide +kernel) (by decide +kernel)
set_option maxRecDepth 20000 in
theorem ly11 : ∀ w ∈ u_ws RX12 TX12 27, w ∈ GT := in_GT [1083, 1085, 1087, 1089, 1091, 1093, 1095, 1097, 1099, 1101, 1103, 1105, 1107, 1109, 1111, 1113, 1115, 1117, 1119, 1121, 1123, 1125, 1127, 1129, 1131, 1133, 1135] (by decide +kernel) (by decide +kernel)
abbrev KTe : Type := Nat × Nat × Value
def wdK (q : KTe) : List Cond := match q.2.2 with
  | .int v => [.constant (nmC q.1) q.2.1 v]
  | .long v => [.constantLong (nmC q.1) q.2.1 v]
  | _ => []
def KT : List KTe := [(11, 73, .int (-1000000001)), (11, 343, .int (-1000000000)), (7, 25, .long (-34905131041)), (7, 27, .long (68719476735)), (7, 29, .long (-1090785346)), (17, 314, .long (6148914691236517205)), (17, 316, .long (3689348814741910323)), (17, 318, .long (1085102592571150095)), (11, 132, .int (-1000000004)), (11, 161, .int (-1000000005)), (11, 204, .int (-1000000003)), (1, 151, .int (1103515245)), (0, 57, .long (-1)), (11, 218, .int (-1000000002)), (5, 39, .long (-1)), (11, 338, .long (68719476735)), (12, 117, .long (8)), (12, 53, .int (-1000000000)), (12, 122, .long (255)), (12, 113, .long (48)), (12, 115, .long (57)), (12, 54, .long (35)), (12, 140, .long (7)), (12, 142, .long (99)), (12, 135, .long (5)), (12, 173, .long (69)), (12, 188, .long (3)), (12, 190, .long (6)), (12, 211, .long (100)), (12, 217, .long (40)), (12, 216, .int (1103515245)), (12, 237, .long (-1)), (12, 258, .long (-5)), (13, 52, .long (4294967295))]
set_option maxRecDepth 20000 in
theorem kt_0 : ∀ w ∈ wdK (11, 73, .int (-1000000001)), w ∈ GT := in_GT [351] (by decide +kernel) (by decide +kernel)
set_option maxRecDepth 20000 in
theorem kt_1 : ∀ w ∈ wdK (11, 343, .int (-1000000000)), w ∈ GT := in_GT [356] (by decide +kernel) (by decide +kernel)
set_option maxRecDepth 20000 in
theorem kt_2 : ∀ w ∈ wdK (7, 25, .long (-34905131041)), w ∈ GT := in_GT [444] (by decide +kernel) (by decide +kernel)
set_option maxRecDepth 20000 in
theorem kt_3 : ∀ w ∈ wdK (7, 27, .long (68719476735)), w ∈ GT := in_GT [445] (by decide +kernel) (by decide +kernel)
set_option maxRecDepth 20000 in
theorem kt_4 : ∀ w ∈ wdK (7, 29, .long (-1090785346)), w ∈ GT := in_GT [446] (by decide +kernel) (by decide +kernel)
set_option maxRecDepth 20000 in
theorem kt_5 : ∀ w ∈ wdK (17, 314, .long (6148914691236517205)), w ∈ GT := in_GT [450] (by decide +kernel) (by decide +kernel)
set_option maxRecDepth 20000 in
theorem kt_6 : ∀ w ∈ wdK (17, 316, .long (3689348814741910323)), w ∈ GT := in_GT [451] (by decide +kernel) (by decide +kernel)
set_option maxRecDepth 20000 in
theorem kt_7 : ∀ w ∈ wdK (17, 318, .long (1085102592571150095)), w ∈ GT := in_GT [452] (by decide +kernel) (by decide +kernel)
set_option maxRecDepth 20000 in
theorem kt_8 : ∀ w ∈ wdK (11, 132, .int (-1000000004)), w ∈ GT := in_GT [487] (by decide +kernel) (by decide +kernel)
set_option maxRecDepth 20000 in
theorem kt_9 : ∀ w ∈ wdK (11, 161, .int (-1000000005)), w ∈ GT := in_GT [528] (by decide +kernel) (by decide +kernel)
set_option maxRecDepth 20000 in
theorem kt_10 : ∀ w ∈ wdK (11, 204, .int (-1000000003)), w ∈ GT := in_GT [696] (by decide +kernel) (by decide +kernel)
set_option maxRecDepth 20000 in
theorem kt_11 : ∀ w ∈ wdK (1, 151, .int (1103515245)), w ∈ GT := in_GT [745] (by decide +kernel) (by decide +kernel)
set_option maxRecDepth 20000 in
theorem kt_12 : ∀ w ∈ wdK (0, 57, .long (-1)), w ∈ GT := in_GT [755] (by decide +kernel) (by decide +kernel)
set_option maxRecDepth 20000 in
theorem kt_13 : ∀ w ∈ wdK (11, 218, .int (-1000000002)), w ∈ GT := in_GT [769] (by decide +kernel) (by decide +kernel)
set_option maxRecDepth 20000 in
theorem kt_14 : ∀ w ∈ wdK (5, 39, .long (-1)), w ∈ GT := in_GT [849] (by decide +kernel) (by decide +kernel)
set_option maxRecDepth 20000 in
theorem kt_15 : ∀ w ∈ wdK (11, 338, .long (68719476735)), w ∈ GT := in_GT [1044] (by decide +kernel) (by decide +kernel)
set_option maxRecDepth 20000 in
theorem kt_16 : ∀ w ∈ wdK (12, 117, .long (8)), w ∈ GT := in_GT [1143] (by decide +kernel) (by decide +kernel)
set_option maxRecDepth 20000 in
theorem kt_17 : ∀ w ∈ wdK (12, 53, .int (-1000000000)), w ∈ GT := in_GT [1151] (by decide +kernel) (by decide +kernel)
set_option maxRecDepth 20000 in
theorem kt_18 : ∀ w ∈ wdK (12, 122, .long (255)), w ∈ GT := in_GT [1152] (by decide +kernel) (by decide +kernel)
set_option maxRecDepth 20000 in
theorem kt_19 : ∀ w ∈ wdK (12, 113, .long (48)), w ∈ GT := in_GT [1201] (by decide +kernel) (by decide +kernel)
set_option maxRecDepth 20000 in
theorem kt_20 : ∀ w ∈ wdK (12, 115, .long (57)), w ∈ GT := in_GT [1202] (by decide +kernel) (by decide +kernel)
set_option maxRecDepth 20000 in
theorem kt_21 : ∀ w ∈ wdK (12, 54, .long (35)), w ∈ GT := in_GT [1221] (by decide +kernel) (by decide +kernel)
set_option maxRecDepth 20000 in
theorem kt_22 : ∀ w ∈ wdK (12, 140, .long (7)), w ∈ GT := in_GT [1222] (by decide +kernel) (by decide +kernel)
set_option maxRecDepth 20000 in
theorem kt_23 : ∀ w ∈ wdK (12, 142, .long (99)), w ∈ GT := in_GT [1223] (by decide +kernel) (by decide +kernel)
set_option maxRecDepth 20000 in
theorem kt_24 : ∀ w ∈ wdK (12, 135, .long (5)), w ∈ GT := in_GT [1228] (by decide +kernel) (by decide +kernel)
set_option maxRecDepth 20000 in
theorem kt_25 : ∀ w ∈ wdK (12, 173, .long (69)), w ∈ GT := in_GT [1273] (by decide +kernel) (by decide +kernel)
set_option maxRecDepth 20000 in
theorem kt_26 : ∀ w ∈ wdK (12, 188, .long (3)), w ∈ GT := in_GT [1302] (by decide +kernel) (by decide +kernel)
set_option maxRecDepth 20000 in
theorem kt_27 : ∀ w ∈ wdK (12, 190, .long (6)), w ∈ GT := in_GT [1311] (by decide +kernel) (by decide +kernel)
set_option maxRecDepth 20000 in
theorem kt_28 : ∀ w ∈ wdK (12, 211, .long (100)), w ∈ GT := in_GT [1319] (by decide +kernel) (by decide +kernel)
set_option maxRecDepth 20000 in
theorem kt_29 : ∀ w ∈ wdK (12, 217, .long (40)), w ∈ GT := in_GT [1348] (by decide +kernel) (by decide +kernel)
set_option maxRecDepth 20000 in
theorem kt_30 : ∀ w ∈ wdK (12, 216, .int (1103515245)), w ∈ GT := in_GT [1353] (by decide +kernel) (by decide +kernel)
set_option maxRecDepth 20000 in
theorem kt_31 : ∀ w ∈ wdK (12, 237, .long (-1)), w ∈ GT := in_GT [1370] (by decide +kernel) (by decide +kernel)
set_option maxRecDepth 20000 in
theorem kt_32 : ∀ w ∈ wdK (12, 258, .long (-5)), w ∈ GT := in_GT [1420] (by decide +kernel) (by decide +kernel)
set_option maxRecDepth 20000 in
theorem kt_33 : ∀ w ∈ wdK (13, 52, .long (4294967295)), w ∈ GT := in_GT [1525] (by decide +kernel) (by decide +kernel)
theorem KT_w : ∀ q ∈ KT, ∀ w ∈ wdK q, w ∈ GT := List.forall_mem_cons.mpr ⟨kt_0, List.forall_mem_cons.mpr ⟨kt_1, List.forall_mem_cons.mpr ⟨kt_2, List.forall_mem_cons.mpr ⟨kt_3, List.forall_mem_cons.mpr ⟨kt_4, List.forall_mem_cons.mpr ⟨kt_5, List.forall_mem_cons.mpr ⟨kt_6, List.forall_mem_cons.mpr ⟨kt_7, List.forall_mem_cons.mpr ⟨kt_8, List.forall_mem_cons.mpr ⟨kt_9, List.forall_mem_cons.mpr ⟨kt_10, List.forall_mem_cons.mpr ⟨kt_11, List.forall_mem_cons.mpr ⟨kt_12, List.forall_mem_cons.mpr ⟨kt_13, List.forall_mem_cons.mpr ⟨kt_14, List.forall_mem_cons.mpr ⟨kt_15, List.forall_mem_cons.mpr ⟨kt_16, List.forall_mem_cons.mpr ⟨kt_17, List.forall_mem_cons.mpr ⟨kt_18, List.forall_mem_cons.mpr ⟨kt_19, List.forall_mem_cons.mpr ⟨kt_20, List.forall_mem_cons.mpr ⟨kt_21, List.forall_mem_cons.mpr ⟨kt_22, List.forall_mem_cons.mpr ⟨kt_23, List.forall_mem_cons.mpr ⟨kt_24, List.forall_mem_cons.mpr ⟨kt_25, List.forall_mem_cons.mpr ⟨kt_26, List.forall_mem_cons.mpr ⟨kt_27, List.forall_mem_cons.mpr ⟨kt_28, List.forall_mem_cons.mpr ⟨kt_29, List.forall_mem_cons.mpr ⟨kt_30, List.forall_mem_cons.mpr ⟨kt_31, List.forall_mem_cons.mpr ⟨kt_32, List.forall_mem_cons.mpr ⟨kt_33, fun _ h => absurd h List.not_mem_nil⟩⟩⟩⟩⟩⟩⟩⟩⟩⟩⟩⟩⟩⟩⟩⟩⟩⟩⟩⟩⟩⟩⟩⟩⟩⟩⟩⟩⟩⟩⟩⟩⟩⟩
def resK (cn ix : Nat) : Option Value := (KT.find? (fun q => q.1 == cn && q.2.1 == ix)).map (fun q => q.2.2)
def strL : List (Nat × String) := [(23, ""), (37, "rcd"), (39, "kwc"), (91, "0123456789"), (51, "|"), (53, "&"), (55, "<=>"), (57, "+-"), (59, "*/%")]
def resS (cn ix : Nat) : Option Nat := if cn = 4 then strL.findIdx? (fun q => q.1 == ix) else none
abbrev NTe : Type := Nat × Nat × Nat
def wdN (q : NTe) : List Cond := [.classLink (nmC q.1) q.2.1 (clOf q.2.2).1, .instantiable (clOf q.2.2).1 (clOf q.2.2).2.2, .initialized (clOf q.2.2).1]
def NT : List NTe := [(13, 7, 10), (11, 9, 1), (1, 9, 0), (1, 18, 9), (1, 24, 3), (3, 9, 6), (1, 34, 6), (11, 22, 4), (4, 9, 6), (11, 29, 8), (9, 9, 6), (11, 36, 5), (11, 43, 2), (11, 50, 7), (13, 10, 11)]
set_option maxRecDepth 20000 in
theorem nt_0 : ∀ w ∈ wdN (13, 7, 10), w ∈ GT := in_GT [78, 79, 57] (by decide +kernel) (by decide +kernel)
set_option maxRecDepth 20000 in
theorem nt_1 : ∀ w ∈ wdN (11, 9, 1), w ∈ GT := in_GT [86, 87, 58] (by decide +kernel) (by decide +kernel)
set_option maxRecDepth 20000 in
theorem nt_2 : ∀ w ∈ wdN (1, 9, 0), w ∈ GT := in_GT [92, 93, 59] (by decide +kernel) (by decide +kernel)
set_option maxRecDepth 20000 in
theorem nt_3 : ∀ w ∈ wdN (1, 18, 9), w ∈ GT := in_GT [106, 143, 63] (by decide +kernel) (by decide +kernel)
set_option maxRecDepth 20000 in
theorem nt_4 : ∀ w ∈ wdN (1, 24, 3), w ∈ GT := in_GT [108, 109, 60] (by decide +kernel) (by decide +kernel)
set_option maxRecDepth 20000 in
theorem nt_5 : ∀ w ∈ wdN (3, 9, 6), w ∈ GT := in_GT [114, 115, 61] (by decide +kernel) (by decide +kernel)
set_option maxRecDepth 20000 in
theorem nt_6 : ∀ w ∈ wdN (1, 34, 6), w ∈ GT := in_GT [141, 115, 61] (by decide +kernel) (by decide +kernel)
set_option maxRecDepth 20000 in
theorem nt_7 : ∀ w ∈ wdN (11, 22, 4), w ∈ GT := in_GT [205, 206, 64] (by decide +kernel) (by decide +kernel)
set_option maxRecDepth 20000 in
theorem nt_8 : ∀ w ∈ wdN (4, 9, 6), w ∈ GT := in_GT [211, 115, 61] (by decide +kernel) (by decide +kernel)
set_option maxRecDepth 20000 in
theorem nt_9 : ∀ w ∈ wdN (11, 29, 8), w ∈ GT := in_GT [232, 233, 65] (by decide +kernel) (by decide +kernel)
set_option maxRecDepth 20000 in
theorem nt_10 : ∀ w ∈ wdN (9, 9, 6), w ∈ GT := in_GT [238, 115, 61] (by decide +kernel) (by decide +kernel)
set_option maxRecDepth 20000 in
theorem nt_11 : ∀ w ∈ wdN (11, 36, 5), w ∈ GT := in_GT [254, 255, 66] (by decide +kernel) (by decide +kernel)
set_option maxRecDepth 20000 in
theorem nt_12 : ∀ w ∈ wdN (11, 43, 2), w ∈ GT := in_GT [271, 272, 67] (by decide +kernel) (by decide +kernel)
set_option maxRecDepth 20000 in
theorem nt_13 : ∀ w ∈ wdN (11, 50, 7), w ∈ GT := in_GT [291, 293, 68] (by decide +kernel) (by decide +kernel)
set_option maxRecDepth 20000 in
theorem nt_14 : ∀ w ∈ wdN (13, 10, 11), w ∈ GT := in_GT [1050, 1051, 69] (by decide +kernel) (by decide +kernel)
theorem NT_w : ∀ q ∈ NT, ∀ w ∈ wdN q, w ∈ GT := List.forall_mem_cons.mpr ⟨nt_0, List.forall_mem_cons.mpr ⟨nt_1, List.forall_mem_cons.mpr ⟨nt_2, List.forall_mem_cons.mpr ⟨nt_3, List.forall_mem_cons.mpr ⟨nt_4, List.forall_mem_cons.mpr ⟨nt_5, List.forall_mem_cons.mpr ⟨nt_6, List.forall_mem_cons.mpr ⟨nt_7, List.forall_mem_cons.mpr ⟨nt_8, List.forall_mem_cons.mpr ⟨nt_9, List.forall_mem_cons.mpr ⟨nt_10, List.forall_mem_cons.mpr ⟨nt_11, List.forall_mem_cons.mpr ⟨nt_12, List.forall_mem_cons.mpr ⟨nt_13, List.forall_mem_cons.mpr ⟨nt_14, fun _ h => absurd h List.not_mem_nil⟩⟩⟩⟩⟩⟩⟩⟩⟩⟩⟩⟩⟩⟩⟩
theorem NT_k : ∀ q ∈ NT, q.2.2 < 12 := by decide +kernel
def resN (cn ix : Nat) : Option Nat := (NT.find? (fun q => q.1 == cn && q.2.1 == ix)).map (fun q => q.2.2)
def dfL : List (List Value) := [[.null, .null], [.null, .null, .null, .null, .null, .null, .int 0, .int 0, .int 0], [.null, .null, .null, .int 0], [.null, .null], [.null, .null, .null, .int 0, .int 0], [.null, .null, .null], [.null, .int 0], [.null, .int 0, .int 0], [.null, .int 0, .int 0, .int 0], [.int 0, .int 0, .int 0, .int 0], [.null, .null, .null, .null, .null, .null, .null, .null, .null, .int 0], [.null, .null, .int 0, .null, .null, .int 0, .int 0, .int 0, .int 0, .int 0, .int 0, .null, .null, .int 0, .null, .int 0, .int 0, .int 0, .null, .null, .null, .int 0, .int 0, .null, .null, .null, .null]]
def dfs (ci : Nat) : List Value := dfL.getD ci []
abbrev ATe : Type := Nat × Nat × Nat
def aqN (t : Nat) : String := if t = 3 then "CarpetLands$Walker" else "CarpetLands$Sheet"
def wdA (q : ATe) : List Cond := [.classLink (nmC q.1) q.2.1 (aqN q.2.2)]
def AT : List ATe := [(1, 18, 3), (11, 50, 4)]
set_option maxRecDepth 20000 in
theorem at_0 : ∀ w ∈ wdA (1, 18, 3), w ∈ GT := in_GT [106] (by decide +kernel) (by decide +kernel)
set_option maxRecDepth 20000 in
theorem at_1 : ∀ w ∈ wdA (11, 50, 4), w ∈ GT := in_GT [291] (by decide +kernel) (by decide +kernel)
theorem AT_w : ∀ q ∈ AT, ∀ w ∈ wdA q, w ∈ GT := List.forall_mem_cons.mpr ⟨at_0, List.forall_mem_cons.mpr ⟨at_1, fun _ h => absurd h List.not_mem_nil⟩⟩
theorem AT_k : ∀ q ∈ AT, q.2.2 = 3 ∨ q.2.2 = 4 := by decide +kernel
def resA (cn ix : Nat) : Option Nat := (AT.find? (fun q => q.1 == cn && q.2.1 == ix)).map (fun q => q.2.2)
set_option maxRecDepth 20000 in
theorem ac_int : Cond.arrayClass .int ∈ GT := in_GT (ws := [Cond.arrayClass .int]) [105] (by decide +kernel) (by decide +kernel) _ List.mem_cons_self
set_option maxRecDepth 20000 in
theorem ac_long : Cond.arrayClass .long ∈ GT := in_GT (ws := [Cond.arrayClass .long]) [270] (by decide +kernel) (by decide +kernel) _ List.mem_cons_self
set_option maxRecDepth 20000 in
theorem ac_boolean : Cond.arrayClass .boolean ∈ GT := in_GT (ws := [Cond.arrayClass .boolean]) [1138] (by decide +kernel) (by decide +kernel) _ List.mem_cons_self
