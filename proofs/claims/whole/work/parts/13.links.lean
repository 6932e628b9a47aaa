theorem tb_1 {w : Cond} (h : w ∈ tables_1_1) : w ∈ lw_tbl := List.mem_append_right _ (List.mem_append_left _ h)
theorem tb_2 {w : Cond} (h : w ∈ tables_1_2) : w ∈ lw_tbl := List.mem_append_right _ (List.mem_append_right _ (List.mem_append_left _ h))
theorem tb_3 {w : Cond} (h : w ∈ tables_1_3) : w ∈ lw_tbl := List.mem_append_right _ (List.mem_append_right _ (List.mem_append_right _ (List.mem_append_left _ h)))
theorem tb_4 {w : Cond} (h : w ∈ tables_1_4) : w ∈ lw_tbl := List.mem_append_right _ (List.mem_append_right _ (List.mem_append_right _ (List.mem_append_right _ (List.mem_append_left _ h))))
theorem tb_5 {w : Cond} (h : w ∈ tables_1_5) : w ∈ lw_tbl := List.mem_append_right _ (List.mem_append_right _ (List.mem_append_right _ (List.mem_append_right _ (List.mem_append_right _ (List.mem_append_left _ h)))))
theorem tb_6 {w : Cond} (h : w ∈ tables_1_6) : w ∈ lw_tbl := List.mem_append_right _ (List.mem_append_right _ (List.mem_append_right _ (List.mem_append_right _ (List.mem_append_right _ (List.mem_append_right _ (List.mem_append_left _ h))))))
theorem tb_7 {w : Cond} (h : w ∈ tables_1_7) : w ∈ lw_tbl := List.mem_append_right _ (List.mem_append_right _ (List.mem_append_right _ (List.mem_append_right _ (List.mem_append_right _ (List.mem_append_right _ (List.mem_append_right _ (List.mem_append_left _ h)))))))
theorem tb_8 {w : Cond} (h : w ∈ tables_1_8) : w ∈ lw_tbl := List.mem_append_right _ (List.mem_append_right _ (List.mem_append_right _ (List.mem_append_right _ (List.mem_append_right _ (List.mem_append_right _ (List.mem_append_right _ (List.mem_append_right _ (h))))))))
abbrev mX11_init : MD := (yX11_init, cX11_init, 1, none)
abbrev mX7_init : MD := (yX7_init, cX7_init, 1, none)
abbrev mX2_init : MD := (yX2_init, cX2_init, 1, none)
abbrev mX5_init : MD := (yX5_init, cX5_init, 4, none)
abbrev mX10_init : MD := (yX10_init, cX10_init, 1, none)
abbrev mJ0_length_8abf5 : MD := (yJ0_length_8abf5, cJ0_length_8abf5, 1, (some .int))
abbrev mJ0_coder_7d493 : MD := (yJ0_coder_7d493, cJ0_coder_7d493, 1, (some .byte))
abbrev mJ0_charAt_5068e : MD := (yJ0_charAt_5068e, cJ0_charAt_5068e, 2, (some .char))
abbrev mJ0_isLatin1_aae02 : MD := (yJ0_isLatin1_aae02, cJ0_isLatin1_aae02, 1, (some .boolean))
abbrev mJ1_charAt_3b067 : MD := (yJ1_charAt_3b067, cJ1_charAt_3b067, 2, (some .char))
abbrev mJ0_checkIndex_df160 : MD := (yJ0_checkIndex_df160, cJ0_checkIndex_df160, 2, none)
abbrev mJ3_checkIndex_8e157 : MD := (yJ3_checkIndex_8e157, cJ3_checkIndex_8e157, 3, (some .int))
abbrev mJ2_charAt_3b067 : MD := (yJ2_charAt_3b067, cJ2_charAt_3b067, 2, (some .char))
abbrev mJ2_checkIndex_2214a : MD := (yJ2_checkIndex_2214a, cJ2_checkIndex_2214a, 2, none)
abbrev mJ2_length_9d52b : MD := (yJ2_length_9d52b, cJ2_length_9d52b, 1, (some .int))
abbrev mJ2_getChar_3b067 : MD := (yJ2_getChar_3b067, cJ2_getChar_3b067, 2, (some .char))
abbrev mX0_init : MD := (yX0_init, cX0_init, 1, none)
abbrev mX1_init : MD := (yX1_init, cX1_init, 1, none)
abbrev mX9_init : MD := (yX9_init, cX9_init, 1, none)
abbrev mX4_init : MD := (yX4_init, cX4_init, 1, none)
abbrev mX8_init : MD := (yX8_init, cX8_init, 1, none)
abbrev mX3_init : MD := (yX3_init, cX3_init, 1, none)
abbrev mX6_init : MD := (yX6_init, cX6_init, 1, none)
abbrev mX9_begin : MD := (yX9_begin, cX9_begin, 2, none)
abbrev mJ7_fill_53178 : MD := (yJ7_fill_53178, cJ7_fill_53178, 4, none)
abbrev mX4_begin : MD := (yX4_begin, cX4_begin, 2, none)
abbrev mX9_keepIn : MD := (yX9_keepIn, cX9_keepIn, 4, none)
abbrev mX11_feed : MD := (yX11_feed, cX11_feed, 6, (some .int))
abbrev mX10_hasRoomFor : MD := (yX10_hasRoomFor, cX10_hasRoomFor, 2, (some .boolean))
abbrev mX10_put : MD := (yX10_put, cX10_put, 3, none)
abbrev mX11_end : MD := (yX11_end, cX11_end, 2, (some .int))
abbrev mX11_chapel : MD := (yX11_chapel, cX11_chapel, 4, (some .int))
abbrev mX7_readInto : MD := (yX7_readInto, cX7_readInto, 4, (some .boolean))
abbrev mX0_clear : MD := (yX0_clear, cX0_clear, 1, none)
abbrev mX1_clear : MD := (yX1_clear, cX1_clear, 1, none)
abbrev mX5_begin : MD := (yX5_begin, cX5_begin, 1, none)
abbrev mX5_advance : MD := (yX5_advance, cX5_advance, 3, none)
abbrev mX5_takeWord : MD := (yX5_takeWord, cX5_takeWord, 4, none)
abbrev mX5_takeNumber : MD := (yX5_takeNumber, cX5_takeNumber, 4, none)
abbrev mJ0_indexOf_0f7a4 : MD := (yJ0_indexOf_0f7a4, cJ0_indexOf_0f7a4, 2, (some .int))
abbrev mJ0_indexOf_7cf53 : MD := (yJ0_indexOf_7cf53, cJ0_indexOf_7cf53, 3, (some .int))
abbrev mJ1_indexOf_4cfef : MD := (yJ1_indexOf_4cfef, cJ1_indexOf_4cfef, 4, (some .int))
abbrev mJ1_canEncode_9a6ad : MD := (yJ1_canEncode_9a6ad, cJ1_canEncode_9a6ad, 1, (some .boolean))
abbrev mJ9_max_7cf53 : MD := (yJ9_max_7cf53, cJ9_max_7cf53, 2, (some .int))
abbrev mJ9_min_7cf53 : MD := (yJ9_min_7cf53, cJ9_min_7cf53, 2, (some .int))
abbrev mJ1_indexOfChar_4cfef : MD := (yJ1_indexOfChar_4cfef, cJ1_indexOfChar_4cfef, 6, (some .int))
abbrev mJ2_indexOf_4cfef : MD := (yJ2_indexOf_4cfef, cJ2_indexOf_4cfef, 4, (some .int))
abbrev mJ2_indexOfChar_4cfef : MD := (yJ2_indexOfChar_4cfef, cJ2_indexOfChar_4cfef, 4, (some .int))
abbrev mJ2_checkBoundsBeginEnd_d044e : MD := (yJ2_checkBoundsBeginEnd_d044e, cJ2_checkBoundsBeginEnd_d044e, 3, none)
abbrev mJ0_checkBoundsBeginEnd_23922 : MD := (yJ0_checkBoundsBeginEnd_23922, cJ0_checkBoundsBeginEnd_23922, 3, none)
abbrev mJ3_checkFromToIndex_8c36e : MD := (yJ3_checkFromToIndex_8c36e, cJ3_checkFromToIndex_8c36e, 4, (some .int))
abbrev mJ2_indexOfCharUnsafe_4cfef : MD := (yJ2_indexOfCharUnsafe_4cfef, cJ2_indexOfCharUnsafe_4cfef, 5, (some .int))
abbrev mJ2_indexOfSupplementary_4cfef : MD := (yJ2_indexOfSupplementary_4cfef, cJ2_indexOfSupplementary_4cfef, 7, (some .int))
abbrev mJ11_isValidCodePoint_9a6ad : MD := (yJ11_isValidCodePoint_9a6ad, cJ11_isValidCodePoint_9a6ad, 2, (some .boolean))
abbrev mJ11_highSurrogate_5068e : MD := (yJ11_highSurrogate_5068e, cJ11_highSurrogate_5068e, 1, (some .char))
abbrev mJ11_lowSurrogate_5068e : MD := (yJ11_lowSurrogate_5068e, cJ11_lowSurrogate_5068e, 1, (some .char))
abbrev mX7_line : MD := (yX7_line, cX7_line, 3, (some .boolean))
abbrev mX7_hearthLine : MD := (yX7_hearthLine, cX7_hearthLine, 3, (some .boolean))
abbrev mX5_refuse : MD := (yX5_refuse, cX5_refuse, 2, (some .boolean))
abbrev mX7_newName : MD := (yX7_newName, cX7_newName, 4, (some .boolean))
abbrev mX7_told : MD := (yX7_told, cX7_told, 4, (some .boolean))
abbrev mX7_stoolLine : MD := (yX7_stoolLine, cX7_stoolLine, 3, (some .boolean))
abbrev mX7_formulaLine : MD := (yX7_formulaLine, cX7_formulaLine, 2, (some .boolean))
abbrev mX1_isTold : MD := (yX1_isTold, cX1_isTold, 1, (some .boolean))
abbrev mX2_either : MD := (yX2_either, cX2_either, 5, (some .boolean))
abbrev mX2_both : MD := (yX2_both, cX2_both, 5, (some .boolean))
abbrev mX2_one : MD := (yX2_one, cX2_one, 4, (some .boolean))
abbrev mX2_relation : MD := (yX2_relation, cX2_relation, 5, (some .boolean))
abbrev mX2_sum : MD := (yX2_sum, cX2_sum, 6, (some .boolean))
abbrev mX2_term : MD := (yX2_term, cX2_term, 6, (some .boolean))
abbrev mX2_unit : MD := (yX2_unit, cX2_unit, 7, (some .boolean))
abbrev mX1_add : MD := (yX1_add, cX1_add, 2, none)
abbrev mX5_pass : MD := (yX5_pass, cX5_pass, 2, (some .boolean))
abbrev mX2_isTimes : MD := (yX2_isTimes, cX2_isTimes, 1, (some .boolean))
abbrev mX7_toldOnce : MD := (yX7_toldOnce, cX7_toldOnce, 4, (some .boolean))
abbrev mX6_forget : MD := (yX6_forget, cX6_forget, 1, none)
abbrev mX11_fault : MD := (yX11_fault, cX11_fault, 2, (some .int))
abbrev mX11_hearth : MD := (yX11_hearth, cX11_hearth, 3, (some .int))
abbrev mX0_hasHearth : MD := (yX0_hasHearth, cX0_hasHearth, 2, (some .boolean))
abbrev mX9_setAt : MD := (yX9_setAt, cX9_setAt, 4, (some .int))
abbrev mX0_quarrelIn : MD := (yX0_quarrelIn, cX0_quarrelIn, 4, (some .boolean))
abbrev mX11_stool : MD := (yX11_stool, cX11_stool, 3, (some .int))
abbrev mX0_hasStool : MD := (yX0_hasStool, cX0_hasStool, 2, (some .boolean))
abbrev mX9_isSaved : MD := (yX9_isSaved, cX9_isSaved, 3, (some .boolean))
abbrev mX11_load : MD := (yX11_load, cX11_load, 3, (some .int))
abbrev mX11_isSent : MD := (yX11_isSent, cX11_isSent, 2, (some .boolean))
abbrev mJ6_bitCount_0f7a4 : MD := (yJ6_bitCount_0f7a4, cJ6_bitCount_0f7a4, 1, (some .int))
abbrev mX0_loadOf : MD := (yX0_loadOf, cX0_loadOf, 7, (some .int))
abbrev mX0_setTerms : MD := (yX0_setTerms, cX0_setTerms, 6, none)
abbrev mX1_valueBy : MD := (yX1_valueBy, cX1_valueBy, 5, (some .int))
abbrev mX1_joined : MD := (yX1_joined, cX1_joined, 3, (some .int))
abbrev mX11_tonight : MD := (yX11_tonight, cX11_tonight, 2, (some .int))
abbrev mX9_counting : MD := (yX9_counting, cX9_counting, 6, (some .int))
abbrev mX0_bearing : MD := (yX0_bearing, cX0_bearing, 9, (some .int))
abbrev mX9_breaking : MD := (yX9_breaking, cX9_breaking, 3, (some .int))
abbrev mX0_allStools : MD := (yX0_allStools, cX0_allStools, 1, (some .int))
abbrev mX9_quarrelling : MD := (yX9_quarrelling, cX9_quarrelling, 5, (some .int))
abbrev mX11_walk : MD := (yX11_walk, cX11_walk, 3, (some .int))
abbrev mX0_wayOf : MD := (yX0_wayOf, cX0_wayOf, 3, (some .int))
abbrev mJ9_abs_0f7a4 : MD := (yJ9_abs_0f7a4, cJ9_abs_0f7a4, 1, (some .int))
abbrev mX11_saved : MD := (yX11_saved, cX11_saved, 1, (some .int))
abbrev mX9_savedBits : MD := (yX9_savedBits, cX9_savedBits, 4, (some .int))
abbrev mX11_about : MD := (yX11_about, cX11_about, 2, (some .int))
abbrev mX11_send : MD := (yX11_send, cX11_send, 4, (some .int))
abbrev mX11_hasRoomNow : MD := (yX11_hasRoomNow, cX11_hasRoomNow, 2, (some .boolean))
abbrev mX4_add : MD := (yX4_add, cX4_add, 2, none)
abbrev mX11_call : MD := (yX11_call, cX11_call, 3, (some .int))
abbrev mX11_evening : MD := (yX11_evening, cX11_evening, 2, (some .int))
abbrev mX9_drawCold : MD := (yX9_drawCold, cX9_drawCold, 4, (some .int))
abbrev mX9_passEvening : MD := (yX9_passEvening, cX9_passEvening, 6, none)
abbrev mX9_rest : MD := (yX9_rest, cX9_rest, 3, none)
abbrev mX9_kneel : MD := (yX9_kneel, cX9_kneel, 7, (some .boolean))
abbrev mX0_wearOf : MD := (yX0_wearOf, cX0_wearOf, 6, (some .int))
abbrev mX11_undo : MD := (yX11_undo, cX11_undo, 1, (some .boolean))
abbrev mX4_stepBack : MD := (yX4_stepBack, cX4_stepBack, 2, (some .boolean))
abbrev mX9_takeFrom : MD := (yX9_takeFrom, cX9_takeFrom, 4, none)
abbrev mX11_redo : MD := (yX11_redo, cX11_redo, 1, (some .boolean))
abbrev mX4_stepOn : MD := (yX4_stepOn, cX4_stepOn, 2, (some .boolean))
abbrev mX11_image : MD := (yX11_image, cX11_image, 2, (some .int))
abbrev mX11_back : MD := (yX11_back, cX11_back, 2, (some .int))
abbrev mX11_round : MD := (yX11_round, cX11_round, 2, (some .int))
abbrev mX8_find : MD := (yX8_find, cX8_find, 7, (some .boolean))
abbrev mX8_priceSets : MD := (yX8_priceSets, cX8_priceSets, 7, none)
abbrev mX8_priceOf : MD := (yX8_priceOf, cX8_priceOf, 9, (some .int))
abbrev mX8_orderOf : MD := (yX8_orderOf, cX8_orderOf, 5, (some .int))
abbrev mX8_goOnWithHearth : MD := (yX8_goOnWithHearth, cX8_goOnWithHearth, 5, none)
abbrev mX8_unpack : MD := (yX8_unpack, cX8_unpack, 7, none)
abbrev mJ9_floorMod_7cf53 : MD := (yJ9_floorMod_7cf53, cJ9_floorMod_7cf53, 3, (some .int))
abbrev mJ9_floorDiv_7cf53 : MD := (yJ9_floorDiv_7cf53, cJ9_floorDiv_7cf53, 3, (some .int))
abbrev mX11_layDownSending : MD := (yX11_layDownSending, cX11_layDownSending, 1, none)
abbrev mX11_service : MD := (yX11_service, cX11_service, 1, (some .int))
abbrev mX11_team : MD := (yX11_team, cX11_team, 6, (some .int))
abbrev mX11_wouldAllCount : MD := (yX11_wouldAllCount, cX11_wouldAllCount, 4, (some .boolean))
abbrev mX11_change : MD := (yX11_change, cX11_change, 8, (some .int))
abbrev mX11_countingExchanged : MD := (yX11_countingExchanged, cX11_countingExchanged, 3, (some .int))
abbrev mX9_copy : MD := (yX9_copy, cX9_copy, 2, none)
abbrev mX11_guests : MD := (yX11_guests, cX11_guests, 4, (some .int))
abbrev mX3_findRests : MD := (yX3_findRests, cX3_findRests, 8, (some .int))
abbrev mX3_weigh : MD := (yX3_weigh, cX3_weigh, 10, none)
abbrev mX3_worth : MD := (yX3_worth, cX3_worth, 5, (some .int))
abbrev mX3_staysAt : MD := (yX3_staysAt, cX3_staysAt, 7, (some .boolean))
abbrev mX3_worthAt : MD := (yX3_worthAt, cX3_worthAt, 4, (some .int))
abbrev mX11_lies : MD := (yX11_lies, cX11_lies, 2, (some .int))
abbrev mX11_cover : MD := (yX11_cover, cX11_cover, 4, (some .int))
abbrev mX11_findWhereEachCould : MD := (yX11_findWhereEachCould, cX11_findWhereEachCould, 3, none)
abbrev mX11_coversAll : MD := (yX11_coversAll, cX11_coversAll, 3, (some .boolean))
abbrev mX11_easiest : MD := (yX11_easiest, cX11_easiest, 6, (some .int))
abbrev mX11_forlorn : MD := (yX11_forlorn, cX11_forlorn, 3, (some .int))
abbrev mX11_nearest : MD := (yX11_nearest, cX11_nearest, 5, (some .int))
abbrev mX11_pilgrim : MD := (yX11_pilgrim, cX11_pilgrim, 5, (some .int))
abbrev mX11_law : MD := (yX11_law, cX11_law, 2, (some .int))
abbrev mX11_schisms : MD := (yX11_schisms, cX11_schisms, 4, (some .int))
abbrev mX11_odds : MD := (yX11_odds, cX11_odds, 6, (some .int))
abbrev mX11_commonDivisor : MD := (yX11_commonDivisor, cX11_commonDivisor, 6, (some .int))
abbrev mX11_lasts : MD := (yX11_lasts, cX11_lasts, 4, (some .int))
abbrev mX11_soon : MD := (yX11_soon, cX11_soon, 4, (some .int))
abbrev mX11_will : MD := (yX11_will, cX11_will, 5, (some .int))
abbrev mX11_isAhead : MD := (yX11_isAhead, cX11_isAhead, 2, (some .boolean))
abbrev mX11_strength : MD := (yX11_strength, cX11_strength, 4, (some .int))
abbrev mX11_grace : MD := (yX11_grace, cX11_grace, 2, (some .int))
abbrev mX11_dented : MD := (yX11_dented, cX11_dented, 4, (some .int))
abbrev mX6_tell : MD := (yX6_tell, cX6_tell, 6, (some .int))
abbrev mX11_held : MD := (yX11_held, cX11_held, 4, (some .int))
abbrev mX11_untell : MD := (yX11_untell, cX11_untell, 2, (some .boolean))
abbrev mX6_takeBack : MD := (yX6_takeBack, cX6_takeBack, 2, (some .boolean))
abbrev mX11_later : MD := (yX11_later, cX11_later, 2, (some .int))
abbrev mX6_goOn : MD := (yX6_goOn, cX6_goOn, 2, (some .int))
abbrev mX11_rows : MD := (yX11_rows, cX11_rows, 2, (some .int))
abbrev mX6_tallyRows : MD := (yX6_tallyRows, cX6_tallyRows, 4, (some .int))
abbrev mX6_gatherBounds : MD := (yX6_gatherBounds, cX6_gatherBounds, 4, none)
abbrev mX6_narrow : MD := (yX6_narrow, cX6_narrow, 5, none)
abbrev mX6_rowsFrom : MD := (yX6_rowsFrom, cX6_rowsFrom, 8, (some .int))
abbrev mX6_fits : MD := (yX6_fits, cX6_fits, 4, (some .boolean))
abbrev mX11_sure : MD := (yX11_sure, cX11_sure, 5, (some .int))
abbrev mX11_ask : MD := (yX11_ask, cX11_ask, 5, (some .int))
abbrev mX6_mostLeft : MD := (yX6_mostLeft, cX6_mostLeft, 4, (some .int))
abbrev mX12_init : MD := (yX12_init, cX12_init, 1, none)
abbrev mX12_feed : MD := (yX12_feed, cX12_feed, 6, (some .int))
abbrev mX12_four : MD := (yX12_four, cX12_four, 3, none)
abbrev mX12_end : MD := (yX12_end, cX12_end, 2, (some .int))
abbrev mX12_chapel : MD := (yX12_chapel, cX12_chapel, 3, (some .int))
abbrev mX12_readAll : MD := (yX12_readAll, cX12_readAll, 1, none)
abbrev mX12_token : MD := (yX12_token, cX12_token, 3, none)
abbrev mX12_here : MD := (yX12_here, cX12_here, 2, (some .int))
abbrev mX12_isLetter : MD := (yX12_isLetter, cX12_isLetter, 1, (some .boolean))
abbrev mX12_isDigit : MD := (yX12_isDigit, cX12_isDigit, 1, (some .boolean))
abbrev mX12_isSign : MD := (yX12_isSign, cX12_isSign, 1, (some .boolean))
abbrev mX12_readLine : MD := (yX12_readLine, cX12_readLine, 1, none)
abbrev mX12_isWord : MD := (yX12_isWord, cX12_isWord, 3, (some .boolean))
abbrev mX12_readHearth : MD := (yX12_readHearth, cX12_readHearth, 2, none)
abbrev mX12_newName : MD := (yX12_newName, cX12_newName, 4, none)
abbrev mX12_isName : MD := (yX12_isName, cX12_isName, 1, (some .boolean))
abbrev mX12_isOwn : MD := (yX12_isOwn, cX12_isOwn, 1, (some .boolean))
abbrev mX12_wrong : MD := (yX12_wrong, cX12_wrong, 2, none)
abbrev mX12_told : MD := (yX12_told, cX12_told, 5, (some .int))
abbrev mX12_want : MD := (yX12_want, cX12_want, 3, none)
abbrev mX12_toldNumber : MD := (yX12_toldNumber, cX12_toldNumber, 4, (some .int))
abbrev mX12_option : MD := (yX12_option, cX12_option, 5, (some .int))
abbrev mX12_readStool : MD := (yX12_readStool, cX12_readStool, 2, none)
abbrev mX12_formula : MD := (yX12_formula, cX12_formula, 4, none)
abbrev mX12_unit : MD := (yX12_unit, cX12_unit, 3, none)
abbrev mX12_mayNot : MD := (yX12_mayNot, cX12_mayNot, 1, (some .boolean))
abbrev mX12_tight : MD := (yX12_tight, cX12_tight, 1, (some .int))
abbrev mX12_openUp : MD := (yX12_openUp, cX12_openUp, 2, none)
abbrev mX12_isFull : MD := (yX12_isFull, cX12_isFull, 1, (some .boolean))
abbrev mX12_countUnit : MD := (yX12_countUnit, cX12_countUnit, 1, none)
abbrev mX12_asked : MD := (yX12_asked, cX12_asked, 1, (some .int))
abbrev mX12_add : MD := (yX12_add, cX12_add, 3, none)
abbrev mX12_sign : MD := (yX12_sign, cX12_sign, 1, (some .int))
abbrev mX12_hasBracket : MD := (yX12_hasBracket, cX12_hasBracket, 3, (some .boolean))
abbrev mX12_close : MD := (yX12_close, cX12_close, 2, none)
abbrev mX12_hasRelation : MD := (yX12_hasRelation, cX12_hasRelation, 2, (some .boolean))
abbrev mX12_begin : MD := (yX12_begin, cX12_begin, 2, none)
abbrev mX12_keepAir : MD := (yX12_keepAir, cX12_keepAir, 2, none)
abbrev mX12_fault : MD := (yX12_fault, cX12_fault, 2, (some .int))
abbrev mX12_hearth : MD := (yX12_hearth, cX12_hearth, 3, (some .int))
abbrev mX12_isHearth : MD := (yX12_isHearth, cX12_isHearth, 2, (some .boolean))
abbrev mX12_isIn : MD := (yX12_isIn, cX12_isIn, 3, (some .boolean))
abbrev mX12_fill : MD := (yX12_fill, cX12_fill, 2, none)
abbrev mX12_sentTo : MD := (yX12_sentTo, cX12_sentTo, 4, (some .int))
abbrev mX12_truth : MD := (yX12_truth, cX12_truth, 1, (some .int))
abbrev mX12_quarrels : MD := (yX12_quarrels, cX12_quarrels, 5, (some .boolean))
abbrev mX12_stool : MD := (yX12_stool, cX12_stool, 3, (some .int))
abbrev mX12_isStool : MD := (yX12_isStool, cX12_isStool, 2, (some .boolean))
abbrev mX12_isSaved : MD := (yX12_isSaved, cX12_isSaved, 2, (some .boolean))
abbrev mX12_load : MD := (yX12_load, cX12_load, 2, (some .int))
abbrev mX12_loadOf : MD := (yX12_loadOf, cX12_loadOf, 2, (some .int))
abbrev mX12_members : MD := (yX12_members, cX12_members, 3, (some .int))
abbrev mX12_loadAt : MD := (yX12_loadAt, cX12_loadAt, 4, (some .int))
abbrev mX12_heavyOf : MD := (yX12_heavyOf, cX12_heavyOf, 2, (some .int))
abbrev mX12_worked : MD := (yX12_worked, cX12_worked, 9, (some .int))
abbrev mX12_done : MD := (yX12_done, cX12_done, 3, (some .int))
abbrev mX12_within : MD := (yX12_within, cX12_within, 2, (some .int))
abbrev mX12_send : MD := (yX12_send, cX12_send, 4, (some .int))
abbrev mX12_hasRoom : MD := (yX12_hasRoom, cX12_hasRoom, 2, (some .boolean))
abbrev mX12_act : MD := (yX12_act, cX12_act, 2, none)
abbrev mX12_call : MD := (yX12_call, cX12_call, 3, (some .int))
abbrev mX12_evening : MD := (yX12_evening, cX12_evening, 2, (some .int))
abbrev mX12_drawCold : MD := (yX12_drawCold, cX12_drawCold, 3, (some .int))
abbrev mX12_goEvening : MD := (yX12_goEvening, cX12_goEvening, 4, none)
abbrev mX12_fareOf : MD := (yX12_fareOf, cX12_fareOf, 3, (some .int))
abbrev mX12_undo : MD := (yX12_undo, cX12_undo, 1, (some .boolean))
abbrev mX12_exchange : MD := (yX12_exchange, cX12_exchange, 4, none)
abbrev mX12_redo : MD := (yX12_redo, cX12_redo, 1, (some .boolean))
abbrev mX12_tonight : MD := (yX12_tonight, cX12_tonight, 2, (some .int))
abbrev mX12_whoFares : MD := (yX12_whoFares, cX12_whoFares, 4, (some .int))
abbrev mX12_walk : MD := (yX12_walk, cX12_walk, 1, (some .int))
abbrev mX12_walkOf : MD := (yX12_walkOf, cX12_walkOf, 3, (some .int))
abbrev mX12_wayOf : MD := (yX12_wayOf, cX12_wayOf, 3, (some .int))
abbrev mX12_plain : MD := (yX12_plain, cX12_plain, 1, (some .int))
abbrev mX12_round : MD := (yX12_round, cX12_round, 6, (some .int))
abbrev mX12_power : MD := (yX12_power, cX12_power, 4, (some .int))
abbrev mX12_laySending : MD := (yX12_laySending, cX12_laySending, 5, (some .boolean))
abbrev mX12_putSending : MD := (yX12_putSending, cX12_putSending, 2, none)
abbrev mX12_service : MD := (yX12_service, cX12_service, 3, (some .int))
abbrev mX12_serves : MD := (yX12_serves, cX12_serves, 4, (some .boolean))
abbrev mX12_team : MD := (yX12_team, cX12_team, 5, (some .int))
abbrev mX12_sendJust : MD := (yX12_sendJust, cX12_sendJust, 4, none)
abbrev mX12_lasts : MD := (yX12_lasts, cX12_lasts, 4, (some .int))
abbrev mX12_countsAlone : MD := (yX12_countsAlone, cX12_countsAlone, 3, (some .boolean))
abbrev mX12_soon : MD := (yX12_soon, cX12_soon, 4, (some .int))
abbrev mX12_change : MD := (yX12_change, cX12_change, 7, (some .int))
abbrev mX12_guests : MD := (yX12_guests, cX12_guests, 6, (some .int))
abbrev mX12_callAll : MD := (yX12_callAll, cX12_callAll, 2, none)
abbrev mX12_isRest : MD := (yX12_isRest, cX12_isRest, 8, (some .boolean))
abbrev mX12_goodOf : MD := (yX12_goodOf, cX12_goodOf, 4, (some .int))
abbrev mX12_cover : MD := (yX12_cover, cX12_cover, 6, (some .int))
abbrev mX12_layCould : MD := (yX12_layCould, cX12_layCould, 3, none)
abbrev mX12_pilgrim : MD := (yX12_pilgrim, cX12_pilgrim, 6, (some .int))
abbrev mX12_will : MD := (yX12_will, cX12_will, 4, (some .int))
abbrev mX12_strength : MD := (yX12_strength, cX12_strength, 4, (some .int))
abbrev mX12_saved : MD := (yX12_saved, cX12_saved, 1, (some .int))
abbrev mX12_savedOnes : MD := (yX12_savedOnes, cX12_savedOnes, 3, (some .int))
abbrev mX12_grace : MD := (yX12_grace, cX12_grace, 2, (some .int))
abbrev mX12_easiest : MD := (yX12_easiest, cX12_easiest, 4, (some .int))
abbrev mX12_forlorn : MD := (yX12_forlorn, cX12_forlorn, 3, (some .int))
abbrev mX12_nearest : MD := (yX12_nearest, cX12_nearest, 4, (some .int))
abbrev mX12_law : MD := (yX12_law, cX12_law, 3, (some .int))
abbrev mX12_schisms : MD := (yX12_schisms, cX12_schisms, 4, (some .int))
abbrev mX12_odds : MD := (yX12_odds, cX12_odds, 6, (some .int))
abbrev mX12_divisor : MD := (yX12_divisor, cX12_divisor, 5, (some .int))
abbrev mX12_lies : MD := (yX12_lies, cX12_lies, 2, (some .int))
abbrev mX12_dented : MD := (yX12_dented, cX12_dented, 4, (some .int))
abbrev mX12_mark : MD := (yX12_mark, cX12_mark, 5, (some .int))
abbrev mX12_held : MD := (yX12_held, cX12_held, 4, (some .int))
abbrev mX12_untell : MD := (yX12_untell, cX12_untell, 2, (some .boolean))
abbrev mX12_later : MD := (yX12_later, cX12_later, 2, (some .int))
abbrev mX12_rows : MD := (yX12_rows, cX12_rows, 2, (some .int))
abbrev mX12_layRows : MD := (yX12_layRows, cX12_layRows, 7, (some .int))
abbrev mX12_isSo : MD := (yX12_isSo, cX12_isSo, 3, (some .boolean))
abbrev mX12_sure : MD := (yX12_sure, cX12_sure, 6, (some .int))
abbrev mX12_ask : MD := (yX12_ask, cX12_ask, 5, (some .int))
abbrev mX12_leftBy : MD := (yX12_leftBy, cX12_leftBy, 4, (some .int))
abbrev mX12_image : MD := (yX12_image, cX12_image, 3, (some .int))
abbrev mX12_isBox : MD := (yX12_isBox, cX12_isBox, 1, (some .boolean))
abbrev mX12_back : MD := (yX12_back, cX12_back, 3, (some .int))
abbrev mX12_about : MD := (yX12_about, cX12_about, 2, (some .int))
theorem fl_X10_9 : FL RX10 9 10 0 := ⟨_, _, _, rfl, by decide, gtb_in (tb_1 (List.mem_of_getElem? (i := 55) (by decide +kernel))) rfl⟩
theorem fl_X5_62 : FL RX5 62 10 0 := ⟨_, _, _, rfl, by decide, gtb_in (tb_1 (List.mem_of_getElem? (i := 56) (by decide +kernel))) rfl⟩
theorem fl_X10_13 : FL RX10 13 10 1 := ⟨_, _, _, rfl, by decide, gtb_in (tb_1 (List.mem_of_getElem? (i := 57) (by decide +kernel))) rfl⟩
theorem fl_X11_116 : FL RX11 116 10 1 := ⟨_, _, _, rfl, by decide, gtb_in (tb_1 (List.mem_of_getElem? (i := 58) (by decide +kernel))) rfl⟩
theorem fl_X5_66 : FL RX5 66 10 1 := ⟨_, _, _, rfl, by decide, gtb_in (tb_1 (List.mem_of_getElem? (i := 59) (by decide +kernel))) rfl⟩
theorem fl_X5_12 : FL RX5 12 5 0 := ⟨_, _, _, rfl, by decide, gtb_in (tb_1 (List.mem_of_getElem? (i := 116) (by decide +kernel))) rfl⟩
theorem fl_X11_20 : FL RX11 20 5 0 := ⟨_, _, _, rfl, by decide, gtb_in (tb_1 (List.mem_of_getElem? (i := 117) (by decide +kernel))) rfl⟩
theorem fl_X5_18 : FL RX5 18 5 1 := ⟨_, _, _, rfl, by decide, gtb_in (tb_1 (List.mem_of_getElem? (i := 118) (by decide +kernel))) rfl⟩
theorem fl_X5_22 : FL RX5 22 5 2 := ⟨_, _, _, rfl, by decide, gtb_in (tb_1 (List.mem_of_getElem? (i := 119) (by decide +kernel))) rfl⟩
theorem fl_X5_26 : FL RX5 26 5 3 := ⟨_, _, _, rfl, by decide, gtb_in (tb_1 (List.mem_of_getElem? (i := 120) (by decide +kernel))) rfl⟩
theorem fl_X5_29 : FL RX5 29 5 4 := ⟨_, _, _, rfl, by decide, gtb_in (tb_1 (List.mem_of_getElem? (i := 121) (by decide +kernel))) rfl⟩
theorem fl_X2_22 : FL RX2 22 5 4 := ⟨_, _, _, rfl, by decide, gtb_in (tb_1 (List.mem_of_getElem? (i := 122) (by decide +kernel))) rfl⟩
theorem fl_X7_47 : FL RX7 47 5 4 := ⟨_, _, _, rfl, by decide, gtb_in (tb_1 (List.mem_of_getElem? (i := 123) (by decide +kernel))) rfl⟩
theorem fl_X5_32 : FL RX5 32 5 5 := ⟨_, _, _, rfl, by decide, gtb_in (tb_1 (List.mem_of_getElem? (i := 124) (by decide +kernel))) rfl⟩
theorem fl_X7_143 : FL RX7 143 5 5 := ⟨_, _, _, rfl, by decide, gtb_in (tb_1 (List.mem_of_getElem? (i := 125) (by decide +kernel))) rfl⟩
theorem fl_X2_58 : FL RX2 58 5 5 := ⟨_, _, _, rfl, by decide, gtb_in (tb_1 (List.mem_of_getElem? (i := 126) (by decide +kernel))) rfl⟩
theorem fl_X5_35 : FL RX5 35 5 6 := ⟨_, _, _, rfl, by decide, gtb_in (tb_1 (List.mem_of_getElem? (i := 127) (by decide +kernel))) rfl⟩
theorem fl_X7_144 : FL RX7 144 5 6 := ⟨_, _, _, rfl, by decide, gtb_in (tb_1 (List.mem_of_getElem? (i := 128) (by decide +kernel))) rfl⟩
theorem fl_X5_39 : FL RX5 39 5 7 := ⟨_, _, _, rfl, by decide, gtb_in (tb_1 (List.mem_of_getElem? (i := 129) (by decide +kernel))) rfl⟩
theorem fl_X11_123 : FL RX11 123 5 7 := ⟨_, _, _, rfl, by decide, gtb_in (tb_1 (List.mem_of_getElem? (i := 130) (by decide +kernel))) rfl⟩
theorem fl_X5_42 : FL RX5 42 5 8 := ⟨_, _, _, rfl, by decide, gtb_in (tb_1 (List.mem_of_getElem? (i := 131) (by decide +kernel))) rfl⟩
theorem fl_X11_126 : FL RX11 126 5 8 := ⟨_, _, _, rfl, by decide, gtb_in (tb_1 (List.mem_of_getElem? (i := 132) (by decide +kernel))) rfl⟩
theorem fl_X2_10 : FL RX2 10 2 0 := ⟨_, _, _, rfl, by decide, gtb_in (tb_1 (List.mem_of_getElem? (i := 153) (by decide +kernel))) rfl⟩
theorem fl_X7_16 : FL RX7 16 2 0 := ⟨_, _, _, rfl, by decide, gtb_in (tb_1 (List.mem_of_getElem? (i := 154) (by decide +kernel))) rfl⟩
theorem fl_X7_10 : FL RX7 10 7 0 := ⟨_, _, _, rfl, by decide, gtb_in (tb_1 (List.mem_of_getElem? (i := 158) (by decide +kernel))) rfl⟩
theorem fl_X11_16 : FL RX11 16 7 1 := ⟨_, _, _, rfl, by decide, gtb_in (tb_1 (List.mem_of_getElem? (i := 159) (by decide +kernel))) rfl⟩
theorem fl_X7_20 : FL RX7 20 7 1 := ⟨_, _, _, rfl, by decide, gtb_in (tb_1 (List.mem_of_getElem? (i := 160) (by decide +kernel))) rfl⟩
theorem fl_X7_23 : FL RX7 23 7 2 := ⟨_, _, _, rfl, by decide, gtb_in (tb_1 (List.mem_of_getElem? (i := 161) (by decide +kernel))) rfl⟩
theorem fl_X7_27 : FL RX7 27 7 3 := ⟨_, _, _, rfl, by decide, gtb_in (tb_1 (List.mem_of_getElem? (i := 162) (by decide +kernel))) rfl⟩
theorem fl_X7_30 : FL RX7 30 7 4 := ⟨_, _, _, rfl, by decide, gtb_in (tb_1 (List.mem_of_getElem? (i := 163) (by decide +kernel))) rfl⟩
theorem fl_X7_34 : FL RX7 34 7 5 := ⟨_, _, _, rfl, by decide, gtb_in (tb_1 (List.mem_of_getElem? (i := 164) (by decide +kernel))) rfl⟩
theorem fl_X1_9 : FL RX1 9 1 0 := ⟨_, _, _, rfl, by decide, gtb_in (tb_1 (List.mem_of_getElem? (i := 190) (by decide +kernel))) rfl⟩
theorem fl_X1_13 : FL RX1 13 1 1 := ⟨_, _, _, rfl, by decide, gtb_in (tb_1 (List.mem_of_getElem? (i := 191) (by decide +kernel))) rfl⟩
theorem fl_X1_16 : FL RX1 16 1 2 := ⟨_, _, _, rfl, by decide, gtb_in (tb_1 (List.mem_of_getElem? (i := 192) (by decide +kernel))) rfl⟩
theorem fl_X1_20 : FL RX1 20 1 3 := ⟨_, _, _, rfl, by decide, gtb_in (tb_1 (List.mem_of_getElem? (i := 193) (by decide +kernel))) rfl⟩
theorem fl_X2_55 : FL RX2 55 1 3 := ⟨_, _, _, rfl, by decide, gtb_in (tb_1 (List.mem_of_getElem? (i := 194) (by decide +kernel))) rfl⟩
theorem fl_X11_241 : FL RX11 241 1 3 := ⟨_, _, _, rfl, by decide, gtb_in (tb_1 (List.mem_of_getElem? (i := 195) (by decide +kernel))) rfl⟩
theorem fl_X0_11 : FL RX0 11 0 0 := ⟨_, _, _, rfl, by decide, gtb_in (tb_1 (List.mem_of_getElem? (i := 206) (by decide +kernel))) rfl⟩
theorem fl_X7_105 : FL RX7 105 0 0 := ⟨_, _, _, rfl, by decide, gtb_in (tb_1 (List.mem_of_getElem? (i := 207) (by decide +kernel))) rfl⟩
theorem fl_X11_138 : FL RX11 138 0 0 := ⟨_, _, _, rfl, by decide, gtb_in (tb_1 (List.mem_of_getElem? (i := 208) (by decide +kernel))) rfl⟩
theorem fl_X0_15 : FL RX0 15 0 1 := ⟨_, _, _, rfl, by decide, gtb_in (tb_1 (List.mem_of_getElem? (i := 209) (by decide +kernel))) rfl⟩
theorem fl_X7_109 : FL RX7 109 0 1 := ⟨_, _, _, rfl, by decide, gtb_in (tb_1 (List.mem_of_getElem? (i := 210) (by decide +kernel))) rfl⟩
theorem fl_X11_141 : FL RX11 141 0 1 := ⟨_, _, _, rfl, by decide, gtb_in (tb_1 (List.mem_of_getElem? (i := 211) (by decide +kernel))) rfl⟩
theorem fl_X0_18 : FL RX0 18 0 2 := ⟨_, _, _, rfl, by decide, gtb_in (tb_1 (List.mem_of_getElem? (i := 212) (by decide +kernel))) rfl⟩
theorem fl_X8_71 : FL RX8 71 0 2 := ⟨_, _, _, rfl, by decide, gtb_in (tb_1 (List.mem_of_getElem? (i := 213) (by decide +kernel))) rfl⟩
theorem fl_X3_43 : FL RX3 43 0 2 := ⟨_, _, _, rfl, by decide, gtb_in (tb_1 (List.mem_of_getElem? (i := 214) (by decide +kernel))) rfl⟩
theorem fl_X7_112 : FL RX7 112 0 2 := ⟨_, _, _, rfl, by decide, gtb_in (tb_1 (List.mem_of_getElem? (i := 215) (by decide +kernel))) rfl⟩
theorem fl_X11_144 : FL RX11 144 0 2 := ⟨_, _, _, rfl, by decide, gtb_in (tb_1 (List.mem_of_getElem? (i := 216) (by decide +kernel))) rfl⟩
theorem fl_X0_21 : FL RX0 21 0 3 := ⟨_, _, _, rfl, by decide, gtb_in (tb_1 (List.mem_of_getElem? (i := 217) (by decide +kernel))) rfl⟩
theorem fl_X7_115 : FL RX7 115 0 3 := ⟨_, _, _, rfl, by decide, gtb_in (tb_1 (List.mem_of_getElem? (i := 218) (by decide +kernel))) rfl⟩
theorem fl_X11_147 : FL RX11 147 0 3 := ⟨_, _, _, rfl, by decide, gtb_in (tb_1 (List.mem_of_getElem? (i := 219) (by decide +kernel))) rfl⟩
theorem fl_X0_24 : FL RX0 24 0 4 := ⟨_, _, _, rfl, by decide, gtb_in (tb_1 (List.mem_of_getElem? (i := 220) (by decide +kernel))) rfl⟩
theorem fl_X7_121 : FL RX7 121 0 4 := ⟨_, _, _, rfl, by decide, gtb_in (tb_1 (List.mem_of_getElem? (i := 221) (by decide +kernel))) rfl⟩
theorem fl_X11_160 : FL RX11 160 0 4 := ⟨_, _, _, rfl, by decide, gtb_in (tb_1 (List.mem_of_getElem? (i := 222) (by decide +kernel))) rfl⟩
theorem fl_X0_27 : FL RX0 27 0 5 := ⟨_, _, _, rfl, by decide, gtb_in (tb_1 (List.mem_of_getElem? (i := 223) (by decide +kernel))) rfl⟩
theorem fl_X9_33 : FL RX9 33 0 5 := ⟨_, _, _, rfl, by decide, gtb_in (tb_1 (List.mem_of_getElem? (i := 224) (by decide +kernel))) rfl⟩
theorem fl_X7_124 : FL RX7 124 0 5 := ⟨_, _, _, rfl, by decide, gtb_in (tb_1 (List.mem_of_getElem? (i := 225) (by decide +kernel))) rfl⟩
theorem fl_X6_82 : FL RX6 82 0 5 := ⟨_, _, _, rfl, by decide, gtb_in (tb_1 (List.mem_of_getElem? (i := 226) (by decide +kernel))) rfl⟩
theorem fl_X0_30 : FL RX0 30 0 6 := ⟨_, _, _, rfl, by decide, gtb_in (tb_1 (List.mem_of_getElem? (i := 227) (by decide +kernel))) rfl⟩
theorem fl_X7_127 : FL RX7 127 0 6 := ⟨_, _, _, rfl, by decide, gtb_in (tb_1 (List.mem_of_getElem? (i := 228) (by decide +kernel))) rfl⟩
theorem fl_X11_166 : FL RX11 166 0 6 := ⟨_, _, _, rfl, by decide, gtb_in (tb_1 (List.mem_of_getElem? (i := 229) (by decide +kernel))) rfl⟩
theorem fl_X0_33 : FL RX0 33 0 7 := ⟨_, _, _, rfl, by decide, gtb_in (tb_1 (List.mem_of_getElem? (i := 230) (by decide +kernel))) rfl⟩
theorem fl_X9_42 : FL RX9 42 0 7 := ⟨_, _, _, rfl, by decide, gtb_in (tb_1 (List.mem_of_getElem? (i := 231) (by decide +kernel))) rfl⟩
theorem fl_X7_130 : FL RX7 130 0 7 := ⟨_, _, _, rfl, by decide, gtb_in (tb_1 (List.mem_of_getElem? (i := 232) (by decide +kernel))) rfl⟩
theorem fl_X6_85 : FL RX6 85 0 7 := ⟨_, _, _, rfl, by decide, gtb_in (tb_1 (List.mem_of_getElem? (i := 233) (by decide +kernel))) rfl⟩
theorem fl_X0_39 : FL RX0 39 0 8 := ⟨_, _, _, rfl, by decide, gtb_in (tb_1 (List.mem_of_getElem? (i := 234) (by decide +kernel))) rfl⟩
theorem fl_X7_64 : FL RX7 64 0 8 := ⟨_, _, _, rfl, by decide, gtb_in (tb_1 (List.mem_of_getElem? (i := 235) (by decide +kernel))) rfl⟩
theorem fl_X11_237 : FL RX11 237 0 8 := ⟨_, _, _, rfl, by decide, gtb_in (tb_1 (List.mem_of_getElem? (i := 236) (by decide +kernel))) rfl⟩
theorem fl_X0_43 : FL RX0 43 0 9 := ⟨_, _, _, rfl, by decide, gtb_in (tb_1 (List.mem_of_getElem? (i := 237) (by decide +kernel))) rfl⟩
theorem fl_X7_72 : FL RX7 72 0 9 := ⟨_, _, _, rfl, by decide, gtb_in (tb_1 (List.mem_of_getElem? (i := 238) (by decide +kernel))) rfl⟩
theorem fl_X11_246 : FL RX11 246 0 9 := ⟨_, _, _, rfl, by decide, gtb_in (tb_1 (List.mem_of_getElem? (i := 239) (by decide +kernel))) rfl⟩
theorem fl_X0_48 : FL RX0 48 0 10 := ⟨_, _, _, rfl, by decide, gtb_in (tb_2 (List.mem_of_getElem? (i := 0) (by decide +kernel))) rfl⟩
theorem fl_X0_51 : FL RX0 51 0 11 := ⟨_, _, _, rfl, by decide, gtb_in (tb_2 (List.mem_of_getElem? (i := 1) (by decide +kernel))) rfl⟩
theorem fl_X3_28 : FL RX3 28 0 11 := ⟨_, _, _, rfl, by decide, gtb_in (tb_2 (List.mem_of_getElem? (i := 2) (by decide +kernel))) rfl⟩
theorem fl_X8_52 : FL RX8 52 0 11 := ⟨_, _, _, rfl, by decide, gtb_in (tb_2 (List.mem_of_getElem? (i := 3) (by decide +kernel))) rfl⟩
theorem fl_X7_91 : FL RX7 91 0 11 := ⟨_, _, _, rfl, by decide, gtb_in (tb_2 (List.mem_of_getElem? (i := 4) (by decide +kernel))) rfl⟩
theorem fl_X9_62 : FL RX9 62 0 11 := ⟨_, _, _, rfl, by decide, gtb_in (tb_2 (List.mem_of_getElem? (i := 5) (by decide +kernel))) rfl⟩
theorem fl_X6_105 : FL RX6 105 0 11 := ⟨_, _, _, rfl, by decide, gtb_in (tb_2 (List.mem_of_getElem? (i := 6) (by decide +kernel))) rfl⟩
theorem fl_X11_212 : FL RX11 212 0 11 := ⟨_, _, _, rfl, by decide, gtb_in (tb_2 (List.mem_of_getElem? (i := 7) (by decide +kernel))) rfl⟩
theorem fl_X0_55 : FL RX0 55 0 12 := ⟨_, _, _, rfl, by decide, gtb_in (tb_2 (List.mem_of_getElem? (i := 8) (by decide +kernel))) rfl⟩
theorem fl_X8_36 : FL RX8 36 0 12 := ⟨_, _, _, rfl, by decide, gtb_in (tb_2 (List.mem_of_getElem? (i := 9) (by decide +kernel))) rfl⟩
theorem fl_X11_132 : FL RX11 132 0 12 := ⟨_, _, _, rfl, by decide, gtb_in (tb_2 (List.mem_of_getElem? (i := 10) (by decide +kernel))) rfl⟩
theorem fl_X7_118 : FL RX7 118 0 12 := ⟨_, _, _, rfl, by decide, gtb_in (tb_2 (List.mem_of_getElem? (i := 11) (by decide +kernel))) rfl⟩
theorem fl_X6_65 : FL RX6 65 0 12 := ⟨_, _, _, rfl, by decide, gtb_in (tb_2 (List.mem_of_getElem? (i := 12) (by decide +kernel))) rfl⟩
theorem fl_X9_55 : FL RX9 55 0 12 := ⟨_, _, _, rfl, by decide, gtb_in (tb_2 (List.mem_of_getElem? (i := 13) (by decide +kernel))) rfl⟩
theorem fl_X0_58 : FL RX0 58 0 13 := ⟨_, _, _, rfl, by decide, gtb_in (tb_2 (List.mem_of_getElem? (i := 14) (by decide +kernel))) rfl⟩
theorem fl_X7_79 : FL RX7 79 0 13 := ⟨_, _, _, rfl, by decide, gtb_in (tb_2 (List.mem_of_getElem? (i := 15) (by decide +kernel))) rfl⟩
theorem fl_X9_52 : FL RX9 52 0 13 := ⟨_, _, _, rfl, by decide, gtb_in (tb_2 (List.mem_of_getElem? (i := 16) (by decide +kernel))) rfl⟩
theorem fl_X11_215 : FL RX11 215 0 13 := ⟨_, _, _, rfl, by decide, gtb_in (tb_2 (List.mem_of_getElem? (i := 17) (by decide +kernel))) rfl⟩
theorem fl_X0_61 : FL RX0 61 0 14 := ⟨_, _, _, rfl, by decide, gtb_in (tb_2 (List.mem_of_getElem? (i := 18) (by decide +kernel))) rfl⟩
theorem fl_X7_82 : FL RX7 82 0 14 := ⟨_, _, _, rfl, by decide, gtb_in (tb_2 (List.mem_of_getElem? (i := 19) (by decide +kernel))) rfl⟩
theorem fl_X9_94 : FL RX9 94 0 14 := ⟨_, _, _, rfl, by decide, gtb_in (tb_2 (List.mem_of_getElem? (i := 20) (by decide +kernel))) rfl⟩
theorem fl_X11_218 : FL RX11 218 0 14 := ⟨_, _, _, rfl, by decide, gtb_in (tb_2 (List.mem_of_getElem? (i := 21) (by decide +kernel))) rfl⟩
theorem fl_X0_64 : FL RX0 64 0 15 := ⟨_, _, _, rfl, by decide, gtb_in (tb_2 (List.mem_of_getElem? (i := 22) (by decide +kernel))) rfl⟩
theorem fl_X9_49 : FL RX9 49 0 15 := ⟨_, _, _, rfl, by decide, gtb_in (tb_2 (List.mem_of_getElem? (i := 23) (by decide +kernel))) rfl⟩
theorem fl_X7_85 : FL RX7 85 0 15 := ⟨_, _, _, rfl, by decide, gtb_in (tb_2 (List.mem_of_getElem? (i := 24) (by decide +kernel))) rfl⟩
theorem fl_X9_11 : FL RX9 11 9 0 := ⟨_, _, _, rfl, by decide, gtb_in (tb_2 (List.mem_of_getElem? (i := 64) (by decide +kernel))) rfl⟩
theorem fl_X11_163 : FL RX11 163 9 0 := ⟨_, _, _, rfl, by decide, gtb_in (tb_2 (List.mem_of_getElem? (i := 65) (by decide +kernel))) rfl⟩
theorem fl_X6_108 : FL RX6 108 9 0 := ⟨_, _, _, rfl, by decide, gtb_in (tb_2 (List.mem_of_getElem? (i := 66) (by decide +kernel))) rfl⟩
theorem fl_X0_102 : FL RX0 102 9 0 := ⟨_, _, _, rfl, by decide, gtb_in (tb_2 (List.mem_of_getElem? (i := 67) (by decide +kernel))) rfl⟩
theorem fl_X9_17 : FL RX9 17 9 1 := ⟨_, _, _, rfl, by decide, gtb_in (tb_2 (List.mem_of_getElem? (i := 68) (by decide +kernel))) rfl⟩
theorem fl_X11_169 : FL RX11 169 9 1 := ⟨_, _, _, rfl, by decide, gtb_in (tb_2 (List.mem_of_getElem? (i := 69) (by decide +kernel))) rfl⟩
theorem fl_X6_111 : FL RX6 111 9 1 := ⟨_, _, _, rfl, by decide, gtb_in (tb_2 (List.mem_of_getElem? (i := 70) (by decide +kernel))) rfl⟩
theorem fl_X0_107 : FL RX0 107 9 1 := ⟨_, _, _, rfl, by decide, gtb_in (tb_2 (List.mem_of_getElem? (i := 71) (by decide +kernel))) rfl⟩
theorem fl_X9_20 : FL RX9 20 9 2 := ⟨_, _, _, rfl, by decide, gtb_in (tb_2 (List.mem_of_getElem? (i := 72) (by decide +kernel))) rfl⟩
theorem fl_X11_172 : FL RX11 172 9 2 := ⟨_, _, _, rfl, by decide, gtb_in (tb_2 (List.mem_of_getElem? (i := 73) (by decide +kernel))) rfl⟩
theorem fl_X9_23 : FL RX9 23 9 3 := ⟨_, _, _, rfl, by decide, gtb_in (tb_2 (List.mem_of_getElem? (i := 74) (by decide +kernel))) rfl⟩
theorem fl_X11_175 : FL RX11 175 9 3 := ⟨_, _, _, rfl, by decide, gtb_in (tb_2 (List.mem_of_getElem? (i := 75) (by decide +kernel))) rfl⟩
theorem fl_X9_26 : FL RX9 26 9 4 := ⟨_, _, _, rfl, by decide, gtb_in (tb_2 (List.mem_of_getElem? (i := 76) (by decide +kernel))) rfl⟩
theorem fl_X6_112 : FL RX6 112 9 4 := ⟨_, _, _, rfl, by decide, gtb_in (tb_2 (List.mem_of_getElem? (i := 77) (by decide +kernel))) rfl⟩
theorem fl_X0_108 : FL RX0 108 9 4 := ⟨_, _, _, rfl, by decide, gtb_in (tb_2 (List.mem_of_getElem? (i := 78) (by decide +kernel))) rfl⟩
theorem fl_X11_221 : FL RX11 221 9 4 := ⟨_, _, _, rfl, by decide, gtb_in (tb_2 (List.mem_of_getElem? (i := 79) (by decide +kernel))) rfl⟩
theorem fl_X9_30 : FL RX9 30 9 5 := ⟨_, _, _, rfl, by decide, gtb_in (tb_2 (List.mem_of_getElem? (i := 80) (by decide +kernel))) rfl⟩
theorem fl_X11_224 : FL RX11 224 9 5 := ⟨_, _, _, rfl, by decide, gtb_in (tb_2 (List.mem_of_getElem? (i := 81) (by decide +kernel))) rfl⟩
theorem fl_X4_11 : FL RX4 11 4 0 := ⟨_, _, _, rfl, by decide, gtb_in (tb_2 (List.mem_of_getElem? (i := 101) (by decide +kernel))) rfl⟩
theorem fl_X4_15 : FL RX4 15 4 1 := ⟨_, _, _, rfl, by decide, gtb_in (tb_2 (List.mem_of_getElem? (i := 102) (by decide +kernel))) rfl⟩
theorem fl_X11_227 : FL RX11 227 4 1 := ⟨_, _, _, rfl, by decide, gtb_in (tb_2 (List.mem_of_getElem? (i := 103) (by decide +kernel))) rfl⟩
theorem fl_X4_19 : FL RX4 19 4 2 := ⟨_, _, _, rfl, by decide, gtb_in (tb_2 (List.mem_of_getElem? (i := 104) (by decide +kernel))) rfl⟩
theorem fl_X11_230 : FL RX11 230 4 2 := ⟨_, _, _, rfl, by decide, gtb_in (tb_2 (List.mem_of_getElem? (i := 105) (by decide +kernel))) rfl⟩
theorem fl_X8_13 : FL RX8 13 8 0 := ⟨_, _, _, rfl, by decide, gtb_in (tb_2 (List.mem_of_getElem? (i := 119) (by decide +kernel))) rfl⟩
theorem fl_X8_17 : FL RX8 17 8 1 := ⟨_, _, _, rfl, by decide, gtb_in (tb_2 (List.mem_of_getElem? (i := 120) (by decide +kernel))) rfl⟩
theorem fl_X8_20 : FL RX8 20 8 2 := ⟨_, _, _, rfl, by decide, gtb_in (tb_2 (List.mem_of_getElem? (i := 121) (by decide +kernel))) rfl⟩
theorem fl_X8_23 : FL RX8 23 8 3 := ⟨_, _, _, rfl, by decide, gtb_in (tb_2 (List.mem_of_getElem? (i := 122) (by decide +kernel))) rfl⟩
theorem fl_X8_26 : FL RX8 26 8 4 := ⟨_, _, _, rfl, by decide, gtb_in (tb_2 (List.mem_of_getElem? (i := 123) (by decide +kernel))) rfl⟩
theorem fl_X11_362 : FL RX11 362 8 4 := ⟨_, _, _, rfl, by decide, gtb_in (tb_2 (List.mem_of_getElem? (i := 124) (by decide +kernel))) rfl⟩
theorem fl_X8_29 : FL RX8 29 8 5 := ⟨_, _, _, rfl, by decide, gtb_in (tb_2 (List.mem_of_getElem? (i := 125) (by decide +kernel))) rfl⟩
theorem fl_X11_283 : FL RX11 283 8 5 := ⟨_, _, _, rfl, by decide, gtb_in (tb_2 (List.mem_of_getElem? (i := 126) (by decide +kernel))) rfl⟩
theorem fl_X8_33 : FL RX8 33 8 6 := ⟨_, _, _, rfl, by decide, gtb_in (tb_2 (List.mem_of_getElem? (i := 127) (by decide +kernel))) rfl⟩
theorem fl_X11_285 : FL RX11 285 8 6 := ⟨_, _, _, rfl, by decide, gtb_in (tb_2 (List.mem_of_getElem? (i := 128) (by decide +kernel))) rfl⟩
theorem fl_X3_13 : FL RX3 13 3 0 := ⟨_, _, _, rfl, by decide, gtb_in (tb_2 (List.mem_of_getElem? (i := 153) (by decide +kernel))) rfl⟩
theorem fl_X3_18 : FL RX3 18 3 1 := ⟨_, _, _, rfl, by decide, gtb_in (tb_2 (List.mem_of_getElem? (i := 154) (by decide +kernel))) rfl⟩
theorem fl_X3_21 : FL RX3 21 3 2 := ⟨_, _, _, rfl, by decide, gtb_in (tb_2 (List.mem_of_getElem? (i := 155) (by decide +kernel))) rfl⟩
theorem fl_X11_299 : FL RX11 299 3 2 := ⟨_, _, _, rfl, by decide, gtb_in (tb_2 (List.mem_of_getElem? (i := 156) (by decide +kernel))) rfl⟩
theorem fl_X3_25 : FL RX3 25 3 3 := ⟨_, _, _, rfl, by decide, gtb_in (tb_2 (List.mem_of_getElem? (i := 157) (by decide +kernel))) rfl⟩
theorem fl_X11_302 : FL RX11 302 3 3 := ⟨_, _, _, rfl, by decide, gtb_in (tb_2 (List.mem_of_getElem? (i := 158) (by decide +kernel))) rfl⟩
theorem fl_X6_11 : FL RX6 11 6 0 := ⟨_, _, _, rfl, by decide, gtb_in (tb_2 (List.mem_of_getElem? (i := 177) (by decide +kernel))) rfl⟩
theorem fl_X6_15 : FL RX6 15 6 1 := ⟨_, _, _, rfl, by decide, gtb_in (tb_2 (List.mem_of_getElem? (i := 178) (by decide +kernel))) rfl⟩
theorem fl_X6_19 : FL RX6 19 6 2 := ⟨_, _, _, rfl, by decide, gtb_in (tb_2 (List.mem_of_getElem? (i := 179) (by decide +kernel))) rfl⟩
theorem fl_X6_22 : FL RX6 22 6 3 := ⟨_, _, _, rfl, by decide, gtb_in (tb_2 (List.mem_of_getElem? (i := 180) (by decide +kernel))) rfl⟩
theorem fl_X6_25 : FL RX6 25 6 4 := ⟨_, _, _, rfl, by decide, gtb_in (tb_2 (List.mem_of_getElem? (i := 181) (by decide +kernel))) rfl⟩
theorem fl_X6_28 : FL RX6 28 6 5 := ⟨_, _, _, rfl, by decide, gtb_in (tb_2 (List.mem_of_getElem? (i := 182) (by decide +kernel))) rfl⟩
theorem fl_X6_31 : FL RX6 31 6 6 := ⟨_, _, _, rfl, by decide, gtb_in (tb_2 (List.mem_of_getElem? (i := 183) (by decide +kernel))) rfl⟩
theorem fl_X11_233 : FL RX11 233 6 6 := ⟨_, _, _, rfl, by decide, gtb_in (tb_2 (List.mem_of_getElem? (i := 184) (by decide +kernel))) rfl⟩
theorem fl_X6_35 : FL RX6 35 6 7 := ⟨_, _, _, rfl, by decide, gtb_in (tb_2 (List.mem_of_getElem? (i := 185) (by decide +kernel))) rfl⟩
theorem fl_X11_234 : FL RX11 234 6 7 := ⟨_, _, _, rfl, by decide, gtb_in (tb_2 (List.mem_of_getElem? (i := 186) (by decide +kernel))) rfl⟩
theorem fl_X6_38 : FL RX6 38 6 8 := ⟨_, _, _, rfl, by decide, gtb_in (tb_2 (List.mem_of_getElem? (i := 187) (by decide +kernel))) rfl⟩
theorem fl_X6_41 : FL RX6 41 6 9 := ⟨_, _, _, rfl, by decide, gtb_in (tb_2 (List.mem_of_getElem? (i := 188) (by decide +kernel))) rfl⟩
theorem fl_X6_44 : FL RX6 44 6 10 := ⟨_, _, _, rfl, by decide, gtb_in (tb_2 (List.mem_of_getElem? (i := 189) (by decide +kernel))) rfl⟩
theorem fl_X6_47 : FL RX6 47 6 11 := ⟨_, _, _, rfl, by decide, gtb_in (tb_2 (List.mem_of_getElem? (i := 190) (by decide +kernel))) rfl⟩
theorem fl_X6_54 : FL RX6 54 6 12 := ⟨_, _, _, rfl, by decide, gtb_in (tb_2 (List.mem_of_getElem? (i := 191) (by decide +kernel))) rfl⟩
theorem fl_X11_355 : FL RX11 355 6 12 := ⟨_, _, _, rfl, by decide, gtb_in (tb_2 (List.mem_of_getElem? (i := 192) (by decide +kernel))) rfl⟩
theorem fl_X6_60 : FL RX6 60 6 13 := ⟨_, _, _, rfl, by decide, gtb_in (tb_2 (List.mem_of_getElem? (i := 193) (by decide +kernel))) rfl⟩
theorem fl_X11_26 : FL RX11 26 11 0 := ⟨_, _, _, rfl, by decide, gtb_in (tb_3 (List.mem_of_getElem? (i := 1) (by decide +kernel))) rfl⟩
theorem fl_X11_10 : FL RX11 10 11 1 := ⟨_, _, _, rfl, by decide, gtb_in (tb_3 (List.mem_of_getElem? (i := 2) (by decide +kernel))) rfl⟩
theorem fl_X11_30 : FL RX11 30 11 2 := ⟨_, _, _, rfl, by decide, gtb_in (tb_3 (List.mem_of_getElem? (i := 3) (by decide +kernel))) rfl⟩
theorem fl_X11_34 : FL RX11 34 11 3 := ⟨_, _, _, rfl, by decide, gtb_in (tb_3 (List.mem_of_getElem? (i := 4) (by decide +kernel))) rfl⟩
theorem fl_X11_40 : FL RX11 40 11 4 := ⟨_, _, _, rfl, by decide, gtb_in (tb_3 (List.mem_of_getElem? (i := 5) (by decide +kernel))) rfl⟩
theorem fl_X11_44 : FL RX11 44 11 5 := ⟨_, _, _, rfl, by decide, gtb_in (tb_3 (List.mem_of_getElem? (i := 6) (by decide +kernel))) rfl⟩
theorem fl_X11_50 : FL RX11 50 11 6 := ⟨_, _, _, rfl, by decide, gtb_in (tb_3 (List.mem_of_getElem? (i := 7) (by decide +kernel))) rfl⟩
theorem fl_X11_54 : FL RX11 54 11 7 := ⟨_, _, _, rfl, by decide, gtb_in (tb_3 (List.mem_of_getElem? (i := 8) (by decide +kernel))) rfl⟩
theorem fl_X11_58 : FL RX11 58 11 8 := ⟨_, _, _, rfl, by decide, gtb_in (tb_3 (List.mem_of_getElem? (i := 9) (by decide +kernel))) rfl⟩
theorem fl_X11_65 : FL RX11 65 11 9 := ⟨_, _, _, rfl, by decide, gtb_in (tb_3 (List.mem_of_getElem? (i := 10) (by decide +kernel))) rfl⟩
theorem fl_X11_72 : FL RX11 72 11 10 := ⟨_, _, _, rfl, by decide, gtb_in (tb_3 (List.mem_of_getElem? (i := 11) (by decide +kernel))) rfl⟩
theorem fl_X11_79 : FL RX11 79 11 11 := ⟨_, _, _, rfl, by decide, gtb_in (tb_3 (List.mem_of_getElem? (i := 12) (by decide +kernel))) rfl⟩
theorem fl_X11_83 : FL RX11 83 11 12 := ⟨_, _, _, rfl, by decide, gtb_in (tb_3 (List.mem_of_getElem? (i := 13) (by decide +kernel))) rfl⟩
theorem fl_X11_86 : FL RX11 86 11 13 := ⟨_, _, _, rfl, by decide, gtb_in (tb_3 (List.mem_of_getElem? (i := 14) (by decide +kernel))) rfl⟩
theorem fl_X11_89 : FL RX11 89 11 14 := ⟨_, _, _, rfl, by decide, gtb_in (tb_3 (List.mem_of_getElem? (i := 15) (by decide +kernel))) rfl⟩
theorem fl_X11_93 : FL RX11 93 11 15 := ⟨_, _, _, rfl, by decide, gtb_in (tb_3 (List.mem_of_getElem? (i := 16) (by decide +kernel))) rfl⟩
theorem fl_X11_96 : FL RX11 96 11 16 := ⟨_, _, _, rfl, by decide, gtb_in (tb_3 (List.mem_of_getElem? (i := 17) (by decide +kernel))) rfl⟩
theorem sl_X8_102 : Cond.fieldLink RX8 102 "FaithfulStools$Sendings" "WEIGHTS" "[I" ∈ gtb := gtb_in (tb_4 (List.mem_of_getElem? (i := 226) (by decide +kernel))) rfl
theorem fl_X12_7 : FL RX12 7 12 0 := ⟨_, _, _, rfl, by decide, gtb_in (tb_5 (List.mem_of_getElem? (i := 212) (by decide +kernel))) rfl⟩
theorem fl_X12_166 : FL RX12 166 12 1 := ⟨_, _, _, rfl, by decide, gtb_in (tb_5 (List.mem_of_getElem? (i := 213) (by decide +kernel))) rfl⟩
theorem fl_X12_206 : FL RX12 206 12 2 := ⟨_, _, _, rfl, by decide, gtb_in (tb_5 (List.mem_of_getElem? (i := 214) (by decide +kernel))) rfl⟩
theorem fl_X12_13 : FL RX12 13 12 3 := ⟨_, _, _, rfl, by decide, gtb_in (tb_5 (List.mem_of_getElem? (i := 215) (by decide +kernel))) rfl⟩
theorem fl_X12_173 : FL RX12 173 12 4 := ⟨_, _, _, rfl, by decide, gtb_in (tb_5 (List.mem_of_getElem? (i := 216) (by decide +kernel))) rfl⟩
theorem fl_X12_176 : FL RX12 176 12 5 := ⟨_, _, _, rfl, by decide, gtb_in (tb_5 (List.mem_of_getElem? (i := 217) (by decide +kernel))) rfl⟩
theorem fl_X12_193 : FL RX12 193 12 6 := ⟨_, _, _, rfl, by decide, gtb_in (tb_5 (List.mem_of_getElem? (i := 218) (by decide +kernel))) rfl⟩
theorem fl_X12_183 : FL RX12 183 12 7 := ⟨_, _, _, rfl, by decide, gtb_in (tb_5 (List.mem_of_getElem? (i := 219) (by decide +kernel))) rfl⟩
theorem fl_X12_190 : FL RX12 190 12 8 := ⟨_, _, _, rfl, by decide, gtb_in (tb_5 (List.mem_of_getElem? (i := 220) (by decide +kernel))) rfl⟩
theorem fl_X12_186 : FL RX12 186 12 9 := ⟨_, _, _, rfl, by decide, gtb_in (tb_5 (List.mem_of_getElem? (i := 221) (by decide +kernel))) rfl⟩
theorem fl_X12_17 : FL RX12 17 12 10 := ⟨_, _, _, rfl, by decide, gtb_in (tb_5 (List.mem_of_getElem? (i := 222) (by decide +kernel))) rfl⟩
theorem fl_X12_21 : FL RX12 21 12 11 := ⟨_, _, _, rfl, by decide, gtb_in (tb_5 (List.mem_of_getElem? (i := 223) (by decide +kernel))) rfl⟩
theorem fl_X12_24 : FL RX12 24 12 12 := ⟨_, _, _, rfl, by decide, gtb_in (tb_5 (List.mem_of_getElem? (i := 224) (by decide +kernel))) rfl⟩
theorem fl_X12_27 : FL RX12 27 12 13 := ⟨_, _, _, rfl, by decide, gtb_in (tb_5 (List.mem_of_getElem? (i := 225) (by decide +kernel))) rfl⟩
theorem fl_X12_30 : FL RX12 30 12 14 := ⟨_, _, _, rfl, by decide, gtb_in (tb_5 (List.mem_of_getElem? (i := 226) (by decide +kernel))) rfl⟩
theorem fl_X12_33 : FL RX12 33 12 15 := ⟨_, _, _, rfl, by decide, gtb_in (tb_5 (List.mem_of_getElem? (i := 227) (by decide +kernel))) rfl⟩
theorem fl_X12_36 : FL RX12 36 12 16 := ⟨_, _, _, rfl, by decide, gtb_in (tb_5 (List.mem_of_getElem? (i := 228) (by decide +kernel))) rfl⟩
theorem fl_X12_39 : FL RX12 39 12 17 := ⟨_, _, _, rfl, by decide, gtb_in (tb_5 (List.mem_of_getElem? (i := 229) (by decide +kernel))) rfl⟩
theorem fl_X12_42 : FL RX12 42 12 18 := ⟨_, _, _, rfl, by decide, gtb_in (tb_5 (List.mem_of_getElem? (i := 230) (by decide +kernel))) rfl⟩
theorem fl_X12_45 : FL RX12 45 12 19 := ⟨_, _, _, rfl, by decide, gtb_in (tb_5 (List.mem_of_getElem? (i := 231) (by decide +kernel))) rfl⟩
theorem fl_X12_276 : FL RX12 276 12 20 := ⟨_, _, _, rfl, by decide, gtb_in (tb_5 (List.mem_of_getElem? (i := 232) (by decide +kernel))) rfl⟩
theorem fl_X12_279 : FL RX12 279 12 21 := ⟨_, _, _, rfl, by decide, gtb_in (tb_5 (List.mem_of_getElem? (i := 233) (by decide +kernel))) rfl⟩
theorem fl_X12_292 : FL RX12 292 12 22 := ⟨_, _, _, rfl, by decide, gtb_in (tb_5 (List.mem_of_getElem? (i := 234) (by decide +kernel))) rfl⟩
theorem fl_X12_401 : FL RX12 401 12 23 := ⟨_, _, _, rfl, by decide, gtb_in (tb_5 (List.mem_of_getElem? (i := 235) (by decide +kernel))) rfl⟩
theorem fl_X12_295 : FL RX12 295 12 24 := ⟨_, _, _, rfl, by decide, gtb_in (tb_5 (List.mem_of_getElem? (i := 236) (by decide +kernel))) rfl⟩
theorem fl_X12_289 : FL RX12 289 12 25 := ⟨_, _, _, rfl, by decide, gtb_in (tb_5 (List.mem_of_getElem? (i := 237) (by decide +kernel))) rfl⟩
theorem fl_X12_49 : FL RX12 49 12 26 := ⟨_, _, _, rfl, by decide, gtb_in (tb_5 (List.mem_of_getElem? (i := 238) (by decide +kernel))) rfl⟩
theorem fl_X12_333 : FL RX12 333 12 27 := ⟨_, _, _, rfl, by decide, gtb_in (tb_5 (List.mem_of_getElem? (i := 239) (by decide +kernel))) rfl⟩
theorem fl_X12_52 : FL RX12 52 12 28 := ⟨_, _, _, rfl, by decide, gtb_in (tb_6 (List.mem_of_getElem? (i := 0) (by decide +kernel))) rfl⟩
theorem fl_X12_55 : FL RX12 55 12 29 := ⟨_, _, _, rfl, by decide, gtb_in (tb_6 (List.mem_of_getElem? (i := 1) (by decide +kernel))) rfl⟩
theorem fl_X12_58 : FL RX12 58 12 30 := ⟨_, _, _, rfl, by decide, gtb_in (tb_6 (List.mem_of_getElem? (i := 2) (by decide +kernel))) rfl⟩
theorem fl_X12_61 : FL RX12 61 12 31 := ⟨_, _, _, rfl, by decide, gtb_in (tb_6 (List.mem_of_getElem? (i := 3) (by decide +kernel))) rfl⟩
theorem fl_X12_64 : FL RX12 64 12 32 := ⟨_, _, _, rfl, by decide, gtb_in (tb_6 (List.mem_of_getElem? (i := 4) (by decide +kernel))) rfl⟩
theorem fl_X12_67 : FL RX12 67 12 33 := ⟨_, _, _, rfl, by decide, gtb_in (tb_6 (List.mem_of_getElem? (i := 5) (by decide +kernel))) rfl⟩
theorem fl_X12_70 : FL RX12 70 12 34 := ⟨_, _, _, rfl, by decide, gtb_in (tb_6 (List.mem_of_getElem? (i := 6) (by decide +kernel))) rfl⟩
theorem fl_X12_73 : FL RX12 73 12 35 := ⟨_, _, _, rfl, by decide, gtb_in (tb_6 (List.mem_of_getElem? (i := 7) (by decide +kernel))) rfl⟩
theorem fl_X12_76 : FL RX12 76 12 36 := ⟨_, _, _, rfl, by decide, gtb_in (tb_6 (List.mem_of_getElem? (i := 8) (by decide +kernel))) rfl⟩
theorem fl_X12_79 : FL RX12 79 12 37 := ⟨_, _, _, rfl, by decide, gtb_in (tb_6 (List.mem_of_getElem? (i := 9) (by decide +kernel))) rfl⟩
theorem fl_X12_82 : FL RX12 82 12 38 := ⟨_, _, _, rfl, by decide, gtb_in (tb_6 (List.mem_of_getElem? (i := 10) (by decide +kernel))) rfl⟩
theorem fl_X12_85 : FL RX12 85 12 39 := ⟨_, _, _, rfl, by decide, gtb_in (tb_6 (List.mem_of_getElem? (i := 11) (by decide +kernel))) rfl⟩
theorem fl_X12_88 : FL RX12 88 12 40 := ⟨_, _, _, rfl, by decide, gtb_in (tb_6 (List.mem_of_getElem? (i := 12) (by decide +kernel))) rfl⟩
theorem fl_X12_91 : FL RX12 91 12 41 := ⟨_, _, _, rfl, by decide, gtb_in (tb_6 (List.mem_of_getElem? (i := 13) (by decide +kernel))) rfl⟩
theorem fl_X12_94 : FL RX12 94 12 42 := ⟨_, _, _, rfl, by decide, gtb_in (tb_6 (List.mem_of_getElem? (i := 14) (by decide +kernel))) rfl⟩
theorem fl_X12_97 : FL RX12 97 12 43 := ⟨_, _, _, rfl, by decide, gtb_in (tb_6 (List.mem_of_getElem? (i := 15) (by decide +kernel))) rfl⟩
theorem fl_X12_346 : FL RX12 346 12 44 := ⟨_, _, _, rfl, by decide, gtb_in (tb_6 (List.mem_of_getElem? (i := 16) (by decide +kernel))) rfl⟩
theorem fl_X12_355 : FL RX12 355 12 45 := ⟨_, _, _, rfl, by decide, gtb_in (tb_6 (List.mem_of_getElem? (i := 17) (by decide +kernel))) rfl⟩
theorem fl_X12_371 : FL RX12 371 12 46 := ⟨_, _, _, rfl, by decide, gtb_in (tb_6 (List.mem_of_getElem? (i := 18) (by decide +kernel))) rfl⟩
theorem fl_X12_377 : FL RX12 377 12 47 := ⟨_, _, _, rfl, by decide, gtb_in (tb_6 (List.mem_of_getElem? (i := 19) (by decide +kernel))) rfl⟩
theorem fl_X12_383 : FL RX12 383 12 48 := ⟨_, _, _, rfl, by decide, gtb_in (tb_6 (List.mem_of_getElem? (i := 20) (by decide +kernel))) rfl⟩
theorem fl_X12_392 : FL RX12 392 12 49 := ⟨_, _, _, rfl, by decide, gtb_in (tb_6 (List.mem_of_getElem? (i := 21) (by decide +kernel))) rfl⟩
theorem fl_X12_395 : FL RX12 395 12 50 := ⟨_, _, _, rfl, by decide, gtb_in (tb_6 (List.mem_of_getElem? (i := 22) (by decide +kernel))) rfl⟩
theorem fl_X12_100 : FL RX12 100 12 51 := ⟨_, _, _, rfl, by decide, gtb_in (tb_6 (List.mem_of_getElem? (i := 23) (by decide +kernel))) rfl⟩
theorem fl_X12_398 : FL RX12 398 12 52 := ⟨_, _, _, rfl, by decide, gtb_in (tb_6 (List.mem_of_getElem? (i := 24) (by decide +kernel))) rfl⟩
theorem fl_X12_367 : FL RX12 367 12 53 := ⟨_, _, _, rfl, by decide, gtb_in (tb_6 (List.mem_of_getElem? (i := 25) (by decide +kernel))) rfl⟩
theorem fl_X12_374 : FL RX12 374 12 54 := ⟨_, _, _, rfl, by decide, gtb_in (tb_6 (List.mem_of_getElem? (i := 26) (by decide +kernel))) rfl⟩
theorem fl_X12_380 : FL RX12 380 12 55 := ⟨_, _, _, rfl, by decide, gtb_in (tb_6 (List.mem_of_getElem? (i := 27) (by decide +kernel))) rfl⟩
theorem fl_X12_103 : FL RX12 103 12 56 := ⟨_, _, _, rfl, by decide, gtb_in (tb_6 (List.mem_of_getElem? (i := 28) (by decide +kernel))) rfl⟩
theorem fl_X12_106 : FL RX12 106 12 57 := ⟨_, _, _, rfl, by decide, gtb_in (tb_6 (List.mem_of_getElem? (i := 29) (by decide +kernel))) rfl⟩
theorem fl_X12_109 : FL RX12 109 12 58 := ⟨_, _, _, rfl, by decide, gtb_in (tb_6 (List.mem_of_getElem? (i := 30) (by decide +kernel))) rfl⟩
theorem fl_X12_112 : FL RX12 112 12 59 := ⟨_, _, _, rfl, by decide, gtb_in (tb_6 (List.mem_of_getElem? (i := 31) (by decide +kernel))) rfl⟩
theorem fl_X12_115 : FL RX12 115 12 60 := ⟨_, _, _, rfl, by decide, gtb_in (tb_6 (List.mem_of_getElem? (i := 32) (by decide +kernel))) rfl⟩
theorem fl_X12_118 : FL RX12 118 12 61 := ⟨_, _, _, rfl, by decide, gtb_in (tb_6 (List.mem_of_getElem? (i := 33) (by decide +kernel))) rfl⟩
theorem fl_X12_410 : FL RX12 410 12 62 := ⟨_, _, _, rfl, by decide, gtb_in (tb_6 (List.mem_of_getElem? (i := 34) (by decide +kernel))) rfl⟩
theorem fl_X12_413 : FL RX12 413 12 63 := ⟨_, _, _, rfl, by decide, gtb_in (tb_6 (List.mem_of_getElem? (i := 35) (by decide +kernel))) rfl⟩
theorem fl_X12_121 : FL RX12 121 12 64 := ⟨_, _, _, rfl, by decide, gtb_in (tb_6 (List.mem_of_getElem? (i := 36) (by decide +kernel))) rfl⟩
theorem fl_X12_419 : FL RX12 419 12 65 := ⟨_, _, _, rfl, by decide, gtb_in (tb_6 (List.mem_of_getElem? (i := 37) (by decide +kernel))) rfl⟩
theorem fl_X12_124 : FL RX12 124 12 66 := ⟨_, _, _, rfl, by decide, gtb_in (tb_6 (List.mem_of_getElem? (i := 38) (by decide +kernel))) rfl⟩
theorem fl_X12_127 : FL RX12 127 12 67 := ⟨_, _, _, rfl, by decide, gtb_in (tb_6 (List.mem_of_getElem? (i := 39) (by decide +kernel))) rfl⟩
theorem fl_X12_130 : FL RX12 130 12 68 := ⟨_, _, _, rfl, by decide, gtb_in (tb_6 (List.mem_of_getElem? (i := 40) (by decide +kernel))) rfl⟩
theorem fl_X12_133 : FL RX12 133 12 69 := ⟨_, _, _, rfl, by decide, gtb_in (tb_6 (List.mem_of_getElem? (i := 41) (by decide +kernel))) rfl⟩
theorem fl_X12_136 : FL RX12 136 12 70 := ⟨_, _, _, rfl, by decide, gtb_in (tb_6 (List.mem_of_getElem? (i := 42) (by decide +kernel))) rfl⟩
theorem fl_X12_139 : FL RX12 139 12 71 := ⟨_, _, _, rfl, by decide, gtb_in (tb_6 (List.mem_of_getElem? (i := 43) (by decide +kernel))) rfl⟩
theorem fl_X12_142 : FL RX12 142 12 72 := ⟨_, _, _, rfl, by decide, gtb_in (tb_6 (List.mem_of_getElem? (i := 44) (by decide +kernel))) rfl⟩
theorem fl_X12_145 : FL RX12 145 12 73 := ⟨_, _, _, rfl, by decide, gtb_in (tb_6 (List.mem_of_getElem? (i := 45) (by decide +kernel))) rfl⟩
theorem fl_X12_416 : FL RX12 416 12 74 := ⟨_, _, _, rfl, by decide, gtb_in (tb_6 (List.mem_of_getElem? (i := 46) (by decide +kernel))) rfl⟩
theorem fl_X12_527 : FL RX12 527 12 75 := ⟨_, _, _, rfl, by decide, gtb_in (tb_6 (List.mem_of_getElem? (i := 47) (by decide +kernel))) rfl⟩
theorem fl_X12_148 : FL RX12 148 12 76 := ⟨_, _, _, rfl, by decide, gtb_in (tb_6 (List.mem_of_getElem? (i := 48) (by decide +kernel))) rfl⟩
theorem fl_X12_151 : FL RX12 151 12 77 := ⟨_, _, _, rfl, by decide, gtb_in (tb_6 (List.mem_of_getElem? (i := 49) (by decide +kernel))) rfl⟩
theorem fl_X12_154 : FL RX12 154 12 78 := ⟨_, _, _, rfl, by decide, gtb_in (tb_6 (List.mem_of_getElem? (i := 50) (by decide +kernel))) rfl⟩
theorem fl_X12_157 : FL RX12 157 12 79 := ⟨_, _, _, rfl, by decide, gtb_in (tb_6 (List.mem_of_getElem? (i := 51) (by decide +kernel))) rfl⟩
theorem fl_X12_160 : FL RX12 160 12 80 := ⟨_, _, _, rfl, by decide, gtb_in (tb_6 (List.mem_of_getElem? (i := 52) (by decide +kernel))) rfl⟩
theorem fl_X12_163 : FL RX12 163 12 81 := ⟨_, _, _, rfl, by decide, gtb_in (tb_6 (List.mem_of_getElem? (i := 53) (by decide +kernel))) rfl⟩
theorem ft_0_0 : FT 0 0 true (.array .int) := fun C T N h => by cases h; exact ⟨rfl, by decide +kernel⟩
theorem ft_0_1 : FT 0 1 true (.array .int) := fun C T N h => by cases h; exact ⟨rfl, by decide +kernel⟩
theorem ft_0_2 : FT 0 2 true (.array .int) := fun C T N h => by cases h; exact ⟨rfl, by decide +kernel⟩
theorem ft_0_3 : FT 0 3 true (.array .int) := fun C T N h => by cases h; exact ⟨rfl, by decide +kernel⟩
theorem ft_0_4 : FT 0 4 true (.array .int) := fun C T N h => by cases h; exact ⟨rfl, by decide +kernel⟩
theorem ft_0_5 : FT 0 5 true (.array .int) := fun C T N h => by cases h; exact ⟨rfl, by decide +kernel⟩
theorem ft_0_6 : FT 0 6 true (.array .int) := fun C T N h => by cases h; exact ⟨rfl, by decide +kernel⟩
theorem ft_0_7 : FT 0 7 true (.array .int) := fun C T N h => by cases h; exact ⟨rfl, by decide +kernel⟩
theorem ft_0_8 : FT 0 8 true (.object "FaithfulStools$Formula") := fun C T N h => by cases h; exact ⟨rfl, by decide +kernel⟩
theorem ft_0_9 : FT 0 9 true (.object "FaithfulStools$Formula") := fun C T N h => by cases h; exact ⟨rfl, by decide +kernel⟩
theorem ft_0_10 : FT 0 10 true (.array .int) := fun C T N h => by cases h; exact ⟨rfl, by decide +kernel⟩
theorem ft_0_11 : FT 0 11 false .int := fun C T N h => by cases h; exact ⟨rfl, by decide +kernel⟩
theorem ft_0_12 : FT 0 12 false .int := fun C T N h => by cases h; exact ⟨rfl, by decide +kernel⟩
theorem ft_0_13 : FT 0 13 false .int := fun C T N h => by cases h; exact ⟨rfl, by decide +kernel⟩
theorem ft_0_14 : FT 0 14 false .int := fun C T N h => by cases h; exact ⟨rfl, by decide +kernel⟩
theorem ft_0_15 : FT 0 15 false .int := fun C T N h => by cases h; exact ⟨rfl, by decide +kernel⟩
theorem ft_1_0 : FT 1 0 true (.array .int) := fun C T N h => by cases h; exact ⟨rfl, by decide +kernel⟩
theorem ft_1_1 : FT 1 1 true (.array .int) := fun C T N h => by cases h; exact ⟨rfl, by decide +kernel⟩
theorem ft_1_2 : FT 1 2 false .int := fun C T N h => by cases h; exact ⟨rfl, by decide +kernel⟩
theorem ft_1_3 : FT 1 3 false .int := fun C T N h => by cases h; exact ⟨rfl, by decide +kernel⟩
theorem ft_2_0 : FT 2 0 true (.object "FaithfulStools$Lexer") := fun C T N h => by cases h; exact ⟨rfl, by decide +kernel⟩
theorem ft_3_0 : FT 3 0 true (.array (.array .int)) := fun C T N h => by cases h; exact ⟨rfl, by decide +kernel⟩
theorem ft_3_1 : FT 3 1 true (.array (.array .int)) := fun C T N h => by cases h; exact ⟨rfl, by decide +kernel⟩
theorem ft_3_2 : FT 3 2 false .int := fun C T N h => by cases h; exact ⟨rfl, by decide +kernel⟩
theorem ft_3_3 : FT 3 3 false .int := fun C T N h => by cases h; exact ⟨rfl, by decide +kernel⟩
theorem ft_4_0 : FT 4 0 true (.array .int) := fun C T N h => by cases h; exact ⟨rfl, by decide +kernel⟩
theorem ft_4_1 : FT 4 1 false .int := fun C T N h => by cases h; exact ⟨rfl, by decide +kernel⟩
theorem ft_4_2 : FT 4 2 false .int := fun C T N h => by cases h; exact ⟨rfl, by decide +kernel⟩
theorem ft_5_0 : FT 5 0 true (.object "FaithfulStools$Tape") := fun C T N h => by cases h; exact ⟨rfl, by decide +kernel⟩
theorem ft_5_1 : FT 5 1 true (.array .long) := fun C T N h => by cases h; exact ⟨rfl, by decide +kernel⟩
theorem ft_5_2 : FT 5 2 false .int := fun C T N h => by cases h; exact ⟨rfl, by decide +kernel⟩
theorem ft_5_3 : FT 5 3 false .int := fun C T N h => by cases h; exact ⟨rfl, by decide +kernel⟩
theorem ft_5_4 : FT 5 4 false .int := fun C T N h => by cases h; exact ⟨rfl, by decide +kernel⟩
theorem ft_5_5 : FT 5 5 false .int := fun C T N h => by cases h; exact ⟨rfl, by decide +kernel⟩
theorem ft_5_6 : FT 5 6 false .long := fun C T N h => by cases h; exact ⟨rfl, by decide +kernel⟩
theorem ft_5_7 : FT 5 7 false .int := fun C T N h => by cases h; exact ⟨rfl, by decide +kernel⟩
theorem ft_5_8 : FT 5 8 false .int := fun C T N h => by cases h; exact ⟨rfl, by decide +kernel⟩
theorem ft_6_0 : FT 6 0 true (.array .int) := fun C T N h => by cases h; exact ⟨rfl, by decide +kernel⟩
theorem ft_6_1 : FT 6 1 true (.array .boolean) := fun C T N h => by cases h; exact ⟨rfl, by decide +kernel⟩
theorem ft_6_2 : FT 6 2 true (.array .int) := fun C T N h => by cases h; exact ⟨rfl, by decide +kernel⟩
theorem ft_6_3 : FT 6 3 true (.array .boolean) := fun C T N h => by cases h; exact ⟨rfl, by decide +kernel⟩
theorem ft_6_4 : FT 6 4 true (.array .int) := fun C T N h => by cases h; exact ⟨rfl, by decide +kernel⟩
theorem ft_6_5 : FT 6 5 true (.array .int) := fun C T N h => by cases h; exact ⟨rfl, by decide +kernel⟩
theorem ft_6_6 : FT 6 6 false .int := fun C T N h => by cases h; exact ⟨rfl, by decide +kernel⟩
theorem ft_6_7 : FT 6 7 false .int := fun C T N h => by cases h; exact ⟨rfl, by decide +kernel⟩
theorem ft_6_8 : FT 6 8 true (.array .int) := fun C T N h => by cases h; exact ⟨rfl, by decide +kernel⟩
theorem ft_6_9 : FT 6 9 true (.array .int) := fun C T N h => by cases h; exact ⟨rfl, by decide +kernel⟩
theorem ft_6_10 : FT 6 10 true (.array .int) := fun C T N h => by cases h; exact ⟨rfl, by decide +kernel⟩
theorem ft_6_11 : FT 6 11 true (.array .int) := fun C T N h => by cases h; exact ⟨rfl, by decide +kernel⟩
theorem ft_6_12 : FT 6 12 true (.array (.array .int)) := fun C T N h => by cases h; exact ⟨rfl, by decide +kernel⟩
theorem ft_6_13 : FT 6 13 true (.object "FaithfulStools$State") := fun C T N h => by cases h; exact ⟨rfl, by decide +kernel⟩
theorem ft_7_0 : FT 7 0 true (.object "FaithfulStools$FormulaReader") := fun C T N h => by cases h; exact ⟨rfl, by decide +kernel⟩
theorem ft_7_1 : FT 7 1 true (.object "FaithfulStools$Lexer") := fun C T N h => by cases h; exact ⟨rfl, by decide +kernel⟩
theorem ft_7_2 : FT 7 2 true (.array .long) := fun C T N h => by cases h; exact ⟨rfl, by decide +kernel⟩
theorem ft_7_3 : FT 7 3 true (.array .long) := fun C T N h => by cases h; exact ⟨rfl, by decide +kernel⟩
theorem ft_7_4 : FT 7 4 false .int := fun C T N h => by cases h; exact ⟨rfl, by decide +kernel⟩
theorem ft_7_5 : FT 7 5 false .int := fun C T N h => by cases h; exact ⟨rfl, by decide +kernel⟩
theorem ft_8_0 : FT 8 0 true (.array .int) := fun C T N h => by cases h; exact ⟨rfl, by decide +kernel⟩
theorem ft_8_1 : FT 8 1 true (.array .int) := fun C T N h => by cases h; exact ⟨rfl, by decide +kernel⟩
theorem ft_8_2 : FT 8 2 true (.array .int) := fun C T N h => by cases h; exact ⟨rfl, by decide +kernel⟩
theorem ft_8_3 : FT 8 3 true (.array .int) := fun C T N h => by cases h; exact ⟨rfl, by decide +kernel⟩
theorem ft_8_4 : FT 8 4 true (.array .int) := fun C T N h => by cases h; exact ⟨rfl, by decide +kernel⟩
theorem ft_8_5 : FT 8 5 false .int := fun C T N h => by cases h; exact ⟨rfl, by decide +kernel⟩
theorem ft_8_6 : FT 8 6 false .int := fun C T N h => by cases h; exact ⟨rfl, by decide +kernel⟩
theorem ft_9_0 : FT 9 0 true (.array .int) := fun C T N h => by cases h; exact ⟨rfl, by decide +kernel⟩
theorem ft_9_1 : FT 9 1 true (.array .int) := fun C T N h => by cases h; exact ⟨rfl, by decide +kernel⟩
theorem ft_9_2 : FT 9 2 true (.array .int) := fun C T N h => by cases h; exact ⟨rfl, by decide +kernel⟩
theorem ft_9_3 : FT 9 3 true (.array .int) := fun C T N h => by cases h; exact ⟨rfl, by decide +kernel⟩
theorem ft_9_4 : FT 9 4 false .int := fun C T N h => by cases h; exact ⟨rfl, by decide +kernel⟩
theorem ft_9_5 : FT 9 5 false .int := fun C T N h => by cases h; exact ⟨rfl, by decide +kernel⟩
theorem ft_10_0 : FT 10 0 true (.array .byte) := fun C T N h => by cases h; exact ⟨rfl, by decide +kernel⟩
theorem ft_10_1 : FT 10 1 false .int := fun C T N h => by cases h; exact ⟨rfl, by decide +kernel⟩
theorem ft_11_0 : FT 11 0 true (.object "FaithfulStools$Tape") := fun C T N h => by cases h; exact ⟨rfl, by decide +kernel⟩
theorem ft_11_1 : FT 11 1 true (.object "FaithfulStools$Reader") := fun C T N h => by cases h; exact ⟨rfl, by decide +kernel⟩
theorem ft_11_2 : FT 11 2 false (.object "FaithfulStools$Chapel") := fun C T N h => by cases h; exact ⟨rfl, by decide +kernel⟩
theorem ft_11_3 : FT 11 3 false (.object "FaithfulStools$Chapel") := fun C T N h => by cases h; exact ⟨rfl, by decide +kernel⟩
theorem ft_11_4 : FT 11 4 true (.object "FaithfulStools$State") := fun C T N h => by cases h; exact ⟨rfl, by decide +kernel⟩
theorem ft_11_5 : FT 11 5 true (.object "FaithfulStools$State") := fun C T N h => by cases h; exact ⟨rfl, by decide +kernel⟩
theorem ft_11_6 : FT 11 6 true (.object "FaithfulStools$History") := fun C T N h => by cases h; exact ⟨rfl, by decide +kernel⟩
theorem ft_11_7 : FT 11 7 true (.array .int) := fun C T N h => by cases h; exact ⟨rfl, by decide +kernel⟩
theorem ft_11_8 : FT 11 8 true (.array .boolean) := fun C T N h => by cases h; exact ⟨rfl, by decide +kernel⟩
theorem ft_11_9 : FT 11 9 true (.object "FaithfulStools$Sendings") := fun C T N h => by cases h; exact ⟨rfl, by decide +kernel⟩
theorem ft_11_10 : FT 11 10 true (.object "FaithfulStools$Guests") := fun C T N h => by cases h; exact ⟨rfl, by decide +kernel⟩
theorem ft_11_11 : FT 11 11 true (.object "FaithfulStools$Memory") := fun C T N h => by cases h; exact ⟨rfl, by decide +kernel⟩
theorem ft_11_12 : FT 11 12 true (.array .int) := fun C T N h => by cases h; exact ⟨rfl, by decide +kernel⟩
theorem ft_11_13 : FT 11 13 true (.array .int) := fun C T N h => by cases h; exact ⟨rfl, by decide +kernel⟩
theorem ft_11_14 : FT 11 14 false .int := fun C T N h => by cases h; exact ⟨rfl, by decide +kernel⟩
theorem ft_11_15 : FT 11 15 false .int := fun C T N h => by cases h; exact ⟨rfl, by decide +kernel⟩
theorem ft_11_16 : FT 11 16 false .int := fun C T N h => by cases h; exact ⟨rfl, by decide +kernel⟩
theorem ft_12_0 : FT 12 0 true (.array .int) := fun C T N h => by cases h; exact ⟨rfl, by decide +kernel⟩
theorem ft_12_1 : FT 12 1 false .int := fun C T N h => by cases h; exact ⟨rfl, by decide +kernel⟩
theorem ft_12_2 : FT 12 2 false .int := fun C T N h => by cases h; exact ⟨rfl, by decide +kernel⟩
theorem ft_12_3 : FT 12 3 false .int := fun C T N h => by cases h; exact ⟨rfl, by decide +kernel⟩
theorem ft_12_4 : FT 12 4 false .int := fun C T N h => by cases h; exact ⟨rfl, by decide +kernel⟩
theorem ft_12_5 : FT 12 5 false .int := fun C T N h => by cases h; exact ⟨rfl, by decide +kernel⟩
theorem ft_12_6 : FT 12 6 false .int := fun C T N h => by cases h; exact ⟨rfl, by decide +kernel⟩
theorem ft_12_7 : FT 12 7 false .int := fun C T N h => by cases h; exact ⟨rfl, by decide +kernel⟩
theorem ft_12_8 : FT 12 8 false .int := fun C T N h => by cases h; exact ⟨rfl, by decide +kernel⟩
theorem ft_12_9 : FT 12 9 false .long := fun C T N h => by cases h; exact ⟨rfl, by decide +kernel⟩
theorem ft_12_10 : FT 12 10 true (.array .long) := fun C T N h => by cases h; exact ⟨rfl, by decide +kernel⟩
theorem ft_12_11 : FT 12 11 true (.array .int) := fun C T N h => by cases h; exact ⟨rfl, by decide +kernel⟩
theorem ft_12_12 : FT 12 12 true (.array .int) := fun C T N h => by cases h; exact ⟨rfl, by decide +kernel⟩
theorem ft_12_13 : FT 12 13 true (.array .int) := fun C T N h => by cases h; exact ⟨rfl, by decide +kernel⟩
theorem ft_12_14 : FT 12 14 true (.array .int) := fun C T N h => by cases h; exact ⟨rfl, by decide +kernel⟩
theorem ft_12_15 : FT 12 15 true (.array .int) := fun C T N h => by cases h; exact ⟨rfl, by decide +kernel⟩
theorem ft_12_16 : FT 12 16 true (.array .int) := fun C T N h => by cases h; exact ⟨rfl, by decide +kernel⟩
theorem ft_12_17 : FT 12 17 true (.array .int) := fun C T N h => by cases h; exact ⟨rfl, by decide +kernel⟩
theorem ft_12_18 : FT 12 18 true (.array .int) := fun C T N h => by cases h; exact ⟨rfl, by decide +kernel⟩
theorem ft_12_19 : FT 12 19 true (.array .boolean) := fun C T N h => by cases h; exact ⟨rfl, by decide +kernel⟩
theorem ft_12_20 : FT 12 20 false .int := fun C T N h => by cases h; exact ⟨rfl, by decide +kernel⟩
theorem ft_12_21 : FT 12 21 false .int := fun C T N h => by cases h; exact ⟨rfl, by decide +kernel⟩
theorem ft_12_22 : FT 12 22 false .int := fun C T N h => by cases h; exact ⟨rfl, by decide +kernel⟩
theorem ft_12_23 : FT 12 23 false .int := fun C T N h => by cases h; exact ⟨rfl, by decide +kernel⟩
theorem ft_12_24 : FT 12 24 false .int := fun C T N h => by cases h; exact ⟨rfl, by decide +kernel⟩
theorem ft_12_25 : FT 12 25 false .int := fun C T N h => by cases h; exact ⟨rfl, by decide +kernel⟩
theorem ft_12_26 : FT 12 26 true (.array .int) := fun C T N h => by cases h; exact ⟨rfl, by decide +kernel⟩
theorem ft_12_27 : FT 12 27 false .int := fun C T N h => by cases h; exact ⟨rfl, by decide +kernel⟩
theorem ft_12_28 : FT 12 28 true (.array .int) := fun C T N h => by cases h; exact ⟨rfl, by decide +kernel⟩
theorem ft_12_29 : FT 12 29 true (.array .int) := fun C T N h => by cases h; exact ⟨rfl, by decide +kernel⟩
theorem ft_12_30 : FT 12 30 true (.array .int) := fun C T N h => by cases h; exact ⟨rfl, by decide +kernel⟩
theorem ft_12_31 : FT 12 31 true (.array .int) := fun C T N h => by cases h; exact ⟨rfl, by decide +kernel⟩
theorem ft_12_32 : FT 12 32 true (.array .int) := fun C T N h => by cases h; exact ⟨rfl, by decide +kernel⟩
theorem ft_12_33 : FT 12 33 true (.array .int) := fun C T N h => by cases h; exact ⟨rfl, by decide +kernel⟩
theorem ft_12_34 : FT 12 34 true (.array .int) := fun C T N h => by cases h; exact ⟨rfl, by decide +kernel⟩
theorem ft_12_35 : FT 12 35 true (.array .int) := fun C T N h => by cases h; exact ⟨rfl, by decide +kernel⟩
theorem ft_12_36 : FT 12 36 true (.array .int) := fun C T N h => by cases h; exact ⟨rfl, by decide +kernel⟩
theorem ft_12_37 : FT 12 37 true (.array .int) := fun C T N h => by cases h; exact ⟨rfl, by decide +kernel⟩
theorem ft_12_38 : FT 12 38 true (.array .int) := fun C T N h => by cases h; exact ⟨rfl, by decide +kernel⟩
theorem ft_12_39 : FT 12 39 true (.array .int) := fun C T N h => by cases h; exact ⟨rfl, by decide +kernel⟩
theorem ft_12_40 : FT 12 40 true (.array .int) := fun C T N h => by cases h; exact ⟨rfl, by decide +kernel⟩
theorem ft_12_41 : FT 12 41 true (.array .int) := fun C T N h => by cases h; exact ⟨rfl, by decide +kernel⟩
theorem ft_12_42 : FT 12 42 true (.array .int) := fun C T N h => by cases h; exact ⟨rfl, by decide +kernel⟩
theorem ft_12_43 : FT 12 43 true (.array .int) := fun C T N h => by cases h; exact ⟨rfl, by decide +kernel⟩
theorem ft_12_44 : FT 12 44 false .int := fun C T N h => by cases h; exact ⟨rfl, by decide +kernel⟩
theorem ft_12_45 : FT 12 45 false .int := fun C T N h => by cases h; exact ⟨rfl, by decide +kernel⟩
theorem ft_12_46 : FT 12 46 false .int := fun C T N h => by cases h; exact ⟨rfl, by decide +kernel⟩
theorem ft_12_47 : FT 12 47 false .int := fun C T N h => by cases h; exact ⟨rfl, by decide +kernel⟩
theorem ft_12_48 : FT 12 48 false .int := fun C T N h => by cases h; exact ⟨rfl, by decide +kernel⟩
theorem ft_12_49 : FT 12 49 false .int := fun C T N h => by cases h; exact ⟨rfl, by decide +kernel⟩
theorem ft_12_50 : FT 12 50 false .int := fun C T N h => by cases h; exact ⟨rfl, by decide +kernel⟩
theorem ft_12_51 : FT 12 51 false .int := fun C T N h => by cases h; exact ⟨rfl, by decide +kernel⟩
theorem ft_12_52 : FT 12 52 false .int := fun C T N h => by cases h; exact ⟨rfl, by decide +kernel⟩
theorem ft_12_53 : FT 12 53 false .boolean := fun C T N h => by cases h; exact ⟨rfl, by decide +kernel⟩
theorem ft_12_54 : FT 12 54 false .boolean := fun C T N h => by cases h; exact ⟨rfl, by decide +kernel⟩
theorem ft_12_55 : FT 12 55 false .boolean := fun C T N h => by cases h; exact ⟨rfl, by decide +kernel⟩
theorem ft_12_56 : FT 12 56 true (.array .int) := fun C T N h => by cases h; exact ⟨rfl, by decide +kernel⟩
theorem ft_12_57 : FT 12 57 true (.array .int) := fun C T N h => by cases h; exact ⟨rfl, by decide +kernel⟩
theorem ft_12_58 : FT 12 58 true (.array .int) := fun C T N h => by cases h; exact ⟨rfl, by decide +kernel⟩
theorem ft_12_59 : FT 12 59 true (.array .int) := fun C T N h => by cases h; exact ⟨rfl, by decide +kernel⟩
theorem ft_12_60 : FT 12 60 true (.array .int) := fun C T N h => by cases h; exact ⟨rfl, by decide +kernel⟩
theorem ft_12_61 : FT 12 61 true (.array .int) := fun C T N h => by cases h; exact ⟨rfl, by decide +kernel⟩
theorem ft_12_62 : FT 12 62 false .int := fun C T N h => by cases h; exact ⟨rfl, by decide +kernel⟩
theorem ft_12_63 : FT 12 63 false .int := fun C T N h => by cases h; exact ⟨rfl, by decide +kernel⟩
theorem ft_12_64 : FT 12 64 true (.array .int) := fun C T N h => by cases h; exact ⟨rfl, by decide +kernel⟩
theorem ft_12_65 : FT 12 65 false .int := fun C T N h => by cases h; exact ⟨rfl, by decide +kernel⟩
theorem ft_12_66 : FT 12 66 true (.array .int) := fun C T N h => by cases h; exact ⟨rfl, by decide +kernel⟩
theorem ft_12_67 : FT 12 67 true (.array .int) := fun C T N h => by cases h; exact ⟨rfl, by decide +kernel⟩
theorem ft_12_68 : FT 12 68 true (.array .int) := fun C T N h => by cases h; exact ⟨rfl, by decide +kernel⟩
theorem ft_12_69 : FT 12 69 true (.array .int) := fun C T N h => by cases h; exact ⟨rfl, by decide +kernel⟩
theorem ft_12_70 : FT 12 70 true (.array .int) := fun C T N h => by cases h; exact ⟨rfl, by decide +kernel⟩
theorem ft_12_71 : FT 12 71 true (.array .int) := fun C T N h => by cases h; exact ⟨rfl, by decide +kernel⟩
theorem ft_12_72 : FT 12 72 true (.array .int) := fun C T N h => by cases h; exact ⟨rfl, by decide +kernel⟩
theorem ft_12_73 : FT 12 73 true (.array .boolean) := fun C T N h => by cases h; exact ⟨rfl, by decide +kernel⟩
theorem ft_12_74 : FT 12 74 false .int := fun C T N h => by cases h; exact ⟨rfl, by decide +kernel⟩
theorem ft_12_75 : FT 12 75 false .int := fun C T N h => by cases h; exact ⟨rfl, by decide +kernel⟩
theorem ft_12_76 : FT 12 76 true (.array .int) := fun C T N h => by cases h; exact ⟨rfl, by decide +kernel⟩
theorem ft_12_77 : FT 12 77 true (.array .int) := fun C T N h => by cases h; exact ⟨rfl, by decide +kernel⟩
theorem ft_12_78 : FT 12 78 true (.array .int) := fun C T N h => by cases h; exact ⟨rfl, by decide +kernel⟩
theorem ft_12_79 : FT 12 79 true (.array .int) := fun C T N h => by cases h; exact ⟨rfl, by decide +kernel⟩
theorem ft_12_80 : FT 12 80 true (.array .boolean) := fun C T N h => by cases h; exact ⟨rfl, by decide +kernel⟩
theorem ft_12_81 : FT 12 81 true (.array .int) := fun C T N h => by cases h; exact ⟨rfl, by decide +kernel⟩
theorem ml_L_9 : Cond.methodLink RL 9 yX11_init ∈ gtb := gtb_in (tb_1 (List.mem_of_getElem? (i := 25) (by decide +kernel))) rfl
theorem ml_X11_1 : Cond.methodLink RX11 1 ⟨"java/lang/Object", "<init>", "()V"⟩ ∈ gtb := gtb_in (tb_1 (List.mem_of_getElem? (i := 28) (by decide +kernel))) rfl
theorem mn_X11_9 : (RX11, 9, yX7_init, "FaithfulStools") ∈ nst := by decide +kernel
theorem ml_X7_1 : Cond.methodLink RX7 1 ⟨"java/lang/Object", "<init>", "()V"⟩ ∈ gtb := gtb_in (tb_1 (List.mem_of_getElem? (i := 36) (by decide +kernel))) rfl
theorem mn_X7_9 : (RX7, 9, yX2_init, "FaithfulStools") ∈ nst := by decide +kernel
theorem ml_X2_1 : Cond.methodLink RX2 1 ⟨"java/lang/Object", "<init>", "()V"⟩ ∈ gtb := gtb_in (tb_1 (List.mem_of_getElem? (i := 42) (by decide +kernel))) rfl
theorem ml_X2_9 : Cond.methodLink RX2 9 yX5_init ∈ gtb := gtb_in (tb_1 (List.mem_of_getElem? (i := 45) (by decide +kernel))) rfl
theorem ml_X5_3 : Cond.methodLink RX5 3 ⟨"java/lang/Object", "<init>", "()V"⟩ ∈ gtb := gtb_in (tb_1 (List.mem_of_getElem? (i := 48) (by decide +kernel))) rfl
theorem mn_X5_11 : (RX5, 11, yX10_init, "FaithfulStools") ∈ nst := by decide +kernel
theorem ml_X10_1 : Cond.methodLink RX10 1 ⟨"java/lang/Object", "<init>", "()V"⟩ ∈ gtb := gtb_in (tb_1 (List.mem_of_getElem? (i := 54) (by decide +kernel))) rfl
theorem ml_X5_47 : Cond.methodLink RX5 47 yJ0_length_8abf5 ∈ gtb := gtb_in (tb_1 (List.mem_of_getElem? (i := 67) (by decide +kernel))) rfl
theorem ml_J0_335 : Cond.methodLink RJ0 335 yJ0_coder_7d493 ∈ gtb := gtb_in (tb_1 (List.mem_of_getElem? (i := 71) (by decide +kernel))) rfl
theorem ml_X5_53 : Cond.methodLink RX5 53 yJ0_charAt_5068e ∈ gtb := gtb_in (tb_1 (List.mem_of_getElem? (i := 77) (by decide +kernel))) rfl
theorem ml_J0_492 : Cond.methodLink RJ0 492 yJ0_isLatin1_aae02 ∈ gtb := gtb_in (tb_1 (List.mem_of_getElem? (i := 81) (by decide +kernel))) rfl
theorem ml_J0_495 : Cond.methodLink RJ0 495 yJ1_charAt_3b067 ∈ gtb := gtb_in (tb_1 (List.mem_of_getElem? (i := 85) (by decide +kernel))) rfl
theorem ml_J1_9 : Cond.methodLink RJ1 9 yJ0_checkIndex_df160 ∈ gtb := gtb_in (tb_1 (List.mem_of_getElem? (i := 88) (by decide +kernel))) rfl
theorem ml_J0_1059 : Cond.methodLink RJ0 1059 yJ3_checkIndex_8e157 ∈ gtb := gtb_in (tb_1 (List.mem_of_getElem? (i := 93) (by decide +kernel))) rfl
theorem ml_J0_498 : Cond.methodLink RJ0 498 yJ2_charAt_3b067 ∈ gtb := gtb_in (tb_1 (List.mem_of_getElem? (i := 96) (by decide +kernel))) rfl
theorem ml_J2_67 : Cond.methodLink RJ2 67 yJ2_checkIndex_2214a ∈ gtb := gtb_in (tb_1 (List.mem_of_getElem? (i := 99) (by decide +kernel))) rfl
theorem ml_J2_48 : Cond.methodLink RJ2 48 yJ2_length_9d52b ∈ gtb := gtb_in (tb_1 (List.mem_of_getElem? (i := 102) (by decide +kernel))) rfl
theorem ml_J2_414 : Cond.methodLink RJ2 414 yJ0_checkIndex_df160 ∈ gtb := gtb_in (tb_1 (List.mem_of_getElem? (i := 105) (by decide +kernel))) rfl
theorem ml_J2_71 : Cond.methodLink RJ2 71 yJ2_getChar_3b067 ∈ gtb := gtb_in (tb_1 (List.mem_of_getElem? (i := 106) (by decide +kernel))) rfl
theorem mn_X11_29 : (RX11, 29, yX0_init, "FaithfulStools") ∈ nst := by decide +kernel
theorem ml_X0_3 : Cond.methodLink RX0 3 ⟨"java/lang/Object", "<init>", "()V"⟩ ∈ gtb := gtb_in (tb_1 (List.mem_of_getElem? (i := 183) (by decide +kernel))) rfl
theorem mn_X0_38 : (RX0, 38, yX1_init, "FaithfulStools") ∈ nst := by decide +kernel
theorem ml_X1_3 : Cond.methodLink RX1 3 ⟨"java/lang/Object", "<init>", "()V"⟩ ∈ gtb := gtb_in (tb_1 (List.mem_of_getElem? (i := 189) (by decide +kernel))) rfl
theorem mn_X11_39 : (RX11, 39, yX9_init, "FaithfulStools") ∈ nst := by decide +kernel
theorem ml_X9_5 : Cond.methodLink RX9 5 ⟨"java/lang/Object", "<init>", "()V"⟩ ∈ gtb := gtb_in (tb_2 (List.mem_of_getElem? (i := 63) (by decide +kernel))) rfl
theorem mn_X11_49 : (RX11, 49, yX4_init, "FaithfulStools") ∈ nst := by decide +kernel
theorem ml_X4_1 : Cond.methodLink RX4 1 ⟨"java/lang/Object", "<init>", "()V"⟩ ∈ gtb := gtb_in (tb_2 (List.mem_of_getElem? (i := 100) (by decide +kernel))) rfl
theorem mn_X11_64 : (RX11, 64, yX8_init, "FaithfulStools") ∈ nst := by decide +kernel
theorem ml_X8_7 : Cond.methodLink RX8 7 ⟨"java/lang/Object", "<init>", "()V"⟩ ∈ gtb := gtb_in (tb_2 (List.mem_of_getElem? (i := 118) (by decide +kernel))) rfl
theorem mn_X11_71 : (RX11, 71, yX3_init, "FaithfulStools") ∈ nst := by decide +kernel
theorem ml_X3_3 : Cond.methodLink RX3 3 ⟨"java/lang/Object", "<init>", "()V"⟩ ∈ gtb := gtb_in (tb_2 (List.mem_of_getElem? (i := 150) (by decide +kernel))) rfl
theorem mn_X11_78 : (RX11, 78, yX6_init, "FaithfulStools") ∈ nst := by decide +kernel
theorem ml_X6_3 : Cond.methodLink RX6 3 ⟨"java/lang/Object", "<init>", "()V"⟩ ∈ gtb := gtb_in (tb_2 (List.mem_of_getElem? (i := 173) (by decide +kernel))) rfl
theorem mn_X6_59 : (RX6, 59, yX9_init, "FaithfulStools") ∈ nst := by decide +kernel
theorem ml_X11_99 : Cond.methodLink RX11 99 yX9_begin ∈ gtb := gtb_in (tb_2 (List.mem_of_getElem? (i := 223) (by decide +kernel))) rfl
theorem ml_X9_36 : Cond.methodLink RX9 36 ⟨RJ10, "arraycopy", "(Ljava/lang/Object;ILjava/lang/Object;II)V"⟩ ∈ gtb := gtb_in (tb_2 (List.mem_of_getElem? (i := 227) (by decide +kernel))) rfl
theorem ml_X9_43 : Cond.methodLink RX9 43 yJ7_fill_53178 ∈ gtb := gtb_in (tb_2 (List.mem_of_getElem? (i := 230) (by decide +kernel))) rfl
theorem ml_X11_103 : Cond.methodLink RX11 103 yX4_begin ∈ gtb := gtb_in (tb_2 (List.mem_of_getElem? (i := 233) (by decide +kernel))) rfl
theorem ml_X4_22 : Cond.methodLink RX4 22 yX9_keepIn ∈ gtb := gtb_in (tb_2 (List.mem_of_getElem? (i := 237) (by decide +kernel))) rfl
theorem ml_L_13 : Cond.methodLink RL 13 yX11_feed ∈ gtb := gtb_in (tb_3 (List.mem_of_getElem? (i := 53) (by decide +kernel))) rfl
theorem ml_X11_106 : Cond.methodLink RX11 106 yX10_hasRoomFor ∈ gtb := gtb_in (tb_3 (List.mem_of_getElem? (i := 57) (by decide +kernel))) rfl
theorem ml_X11_112 : Cond.methodLink RX11 112 yX10_put ∈ gtb := gtb_in (tb_3 (List.mem_of_getElem? (i := 61) (by decide +kernel))) rfl
theorem ml_L_18 : Cond.methodLink RL 18 yX11_end ∈ gtb := gtb_in (tb_3 (List.mem_of_getElem? (i := 65) (by decide +kernel))) rfl
theorem ml_L_23 : Cond.methodLink RL 23 yX11_chapel ∈ gtb := gtb_in (tb_3 (List.mem_of_getElem? (i := 69) (by decide +kernel))) rfl
theorem ml_X11_119 : Cond.methodLink RX11 119 yX7_readInto ∈ gtb := gtb_in (tb_3 (List.mem_of_getElem? (i := 73) (by decide +kernel))) rfl
theorem ml_X7_37 : Cond.methodLink RX7 37 yX0_clear ∈ gtb := gtb_in (tb_3 (List.mem_of_getElem? (i := 77) (by decide +kernel))) rfl
theorem ml_X0_67 : Cond.methodLink RX0 67 yX1_clear ∈ gtb := gtb_in (tb_3 (List.mem_of_getElem? (i := 81) (by decide +kernel))) rfl
theorem ml_X7_40 : Cond.methodLink RX7 40 yX5_begin ∈ gtb := gtb_in (tb_3 (List.mem_of_getElem? (i := 85) (by decide +kernel))) rfl
theorem ml_X5_59 : Cond.methodLink RX5 59 yX5_advance ∈ gtb := gtb_in (tb_3 (List.mem_of_getElem? (i := 89) (by decide +kernel))) rfl
theorem ml_X5_69 : Cond.methodLink RX5 69 yX5_takeWord ∈ gtb := gtb_in (tb_3 (List.mem_of_getElem? (i := 93) (by decide +kernel))) rfl
theorem ml_X5_72 : Cond.methodLink RX5 72 yX5_takeNumber ∈ gtb := gtb_in (tb_3 (List.mem_of_getElem? (i := 97) (by decide +kernel))) rfl
theorem ml_X5_77 : Cond.methodLink RX5 77 yJ0_indexOf_0f7a4 ∈ gtb := gtb_in (tb_3 (List.mem_of_getElem? (i := 102) (by decide +kernel))) rfl
theorem ml_J0_633 : Cond.methodLink RJ0 633 yJ0_indexOf_7cf53 ∈ gtb := gtb_in (tb_3 (List.mem_of_getElem? (i := 106) (by decide +kernel))) rfl
theorem ml_J0_505 : Cond.methodLink RJ0 505 yJ0_length_8abf5 ∈ gtb := gtb_in (tb_3 (List.mem_of_getElem? (i := 110) (by decide +kernel))) rfl
theorem ml_J0_637 : Cond.methodLink RJ0 637 yJ1_indexOf_4cfef ∈ gtb := gtb_in (tb_3 (List.mem_of_getElem? (i := 111) (by decide +kernel))) rfl
theorem ml_J1_88 : Cond.methodLink RJ1 88 yJ1_canEncode_9a6ad ∈ gtb := gtb_in (tb_3 (List.mem_of_getElem? (i := 114) (by decide +kernel))) rfl
theorem ml_J1_92 : Cond.methodLink RJ1 92 yJ9_max_7cf53 ∈ gtb := gtb_in (tb_3 (List.mem_of_getElem? (i := 117) (by decide +kernel))) rfl
theorem ml_J1_38 : Cond.methodLink RJ1 38 yJ9_min_7cf53 ∈ gtb := gtb_in (tb_3 (List.mem_of_getElem? (i := 120) (by decide +kernel))) rfl
theorem ml_J1_95 : Cond.methodLink RJ1 95 yJ1_indexOfChar_4cfef ∈ gtb := gtb_in (tb_3 (List.mem_of_getElem? (i := 123) (by decide +kernel))) rfl
theorem ml_J0_640 : Cond.methodLink RJ0 640 yJ2_indexOf_4cfef ∈ gtb := gtb_in (tb_3 (List.mem_of_getElem? (i := 126) (by decide +kernel))) rfl
theorem ml_J2_224 : Cond.methodLink RJ2 224 yJ9_max_7cf53 ∈ gtb := gtb_in (tb_3 (List.mem_of_getElem? (i := 129) (by decide +kernel))) rfl
theorem ml_J2_183 : Cond.methodLink RJ2 183 yJ9_min_7cf53 ∈ gtb := gtb_in (tb_3 (List.mem_of_getElem? (i := 130) (by decide +kernel))) rfl
theorem ml_J2_228 : Cond.methodLink RJ2 228 yJ2_indexOfChar_4cfef ∈ gtb := gtb_in (tb_3 (List.mem_of_getElem? (i := 132) (by decide +kernel))) rfl
theorem ml_J2_96 : Cond.methodLink RJ2 96 yJ2_checkBoundsBeginEnd_d044e ∈ gtb := gtb_in (tb_3 (List.mem_of_getElem? (i := 135) (by decide +kernel))) rfl
theorem ml_J2_241 : Cond.methodLink RJ2 241 yJ0_checkBoundsBeginEnd_23922 ∈ gtb := gtb_in (tb_3 (List.mem_of_getElem? (i := 138) (by decide +kernel))) rfl
theorem ml_J0_1062 : Cond.methodLink RJ0 1062 yJ3_checkFromToIndex_8c36e ∈ gtb := gtb_in (tb_3 (List.mem_of_getElem? (i := 141) (by decide +kernel))) rfl
theorem ml_J2_244 : Cond.methodLink RJ2 244 yJ2_indexOfCharUnsafe_4cfef ∈ gtb := gtb_in (tb_3 (List.mem_of_getElem? (i := 144) (by decide +kernel))) rfl
theorem ml_J2_232 : Cond.methodLink RJ2 232 yJ2_indexOfSupplementary_4cfef ∈ gtb := gtb_in (tb_3 (List.mem_of_getElem? (i := 147) (by decide +kernel))) rfl
theorem ml_J2_164 : Cond.methodLink RJ2 164 yJ11_isValidCodePoint_9a6ad ∈ gtb := gtb_in (tb_3 (List.mem_of_getElem? (i := 150) (by decide +kernel))) rfl
theorem ml_J2_157 : Cond.methodLink RJ2 157 yJ11_highSurrogate_5068e ∈ gtb := gtb_in (tb_3 (List.mem_of_getElem? (i := 153) (by decide +kernel))) rfl
theorem ml_J2_161 : Cond.methodLink RJ2 161 yJ11_lowSurrogate_5068e ∈ gtb := gtb_in (tb_3 (List.mem_of_getElem? (i := 157) (by decide +kernel))) rfl
theorem ml_X7_50 : Cond.methodLink RX7 50 yX7_line ∈ gtb := gtb_in (tb_3 (List.mem_of_getElem? (i := 161) (by decide +kernel))) rfl
theorem ml_X7_58 : Cond.methodLink RX7 58 yX7_hearthLine ∈ gtb := gtb_in (tb_3 (List.mem_of_getElem? (i := 165) (by decide +kernel))) rfl
theorem ml_X7_88 : Cond.methodLink RX7 88 yX5_refuse ∈ gtb := gtb_in (tb_3 (List.mem_of_getElem? (i := 169) (by decide +kernel))) rfl
theorem ml_X7_94 : Cond.methodLink RX7 94 yX5_advance ∈ gtb := gtb_in (tb_3 (List.mem_of_getElem? (i := 173) (by decide +kernel))) rfl
theorem ml_X7_97 : Cond.methodLink RX7 97 yX7_newName ∈ gtb := gtb_in (tb_3 (List.mem_of_getElem? (i := 174) (by decide +kernel))) rfl
theorem ml_X7_101 : Cond.methodLink RX7 101 yX7_told ∈ gtb := gtb_in (tb_3 (List.mem_of_getElem? (i := 178) (by decide +kernel))) rfl
theorem ml_X7_61 : Cond.methodLink RX7 61 yX7_stoolLine ∈ gtb := gtb_in (tb_3 (List.mem_of_getElem? (i := 182) (by decide +kernel))) rfl
theorem ml_X7_68 : Cond.methodLink RX7 68 yX7_formulaLine ∈ gtb := gtb_in (tb_3 (List.mem_of_getElem? (i := 186) (by decide +kernel))) rfl
theorem ml_X7_133 : Cond.methodLink RX7 133 yX1_isTold ∈ gtb := gtb_in (tb_3 (List.mem_of_getElem? (i := 190) (by decide +kernel))) rfl
theorem mn_X7_139 : (RX7, 139, yX2_either, "FaithfulStools") ∈ nst := by decide +kernel
theorem ml_X2_16 : Cond.methodLink RX2 16 yX2_both ∈ gtb := gtb_in (tb_3 (List.mem_of_getElem? (i := 198) (by decide +kernel))) rfl
theorem ml_X2_33 : Cond.methodLink RX2 33 yX2_one ∈ gtb := gtb_in (tb_3 (List.mem_of_getElem? (i := 202) (by decide +kernel))) rfl
theorem ml_X2_36 : Cond.methodLink RX2 36 yX2_relation ∈ gtb := gtb_in (tb_3 (List.mem_of_getElem? (i := 206) (by decide +kernel))) rfl
theorem ml_X2_43 : Cond.methodLink RX2 43 yX2_sum ∈ gtb := gtb_in (tb_3 (List.mem_of_getElem? (i := 210) (by decide +kernel))) rfl
theorem ml_X2_46 : Cond.methodLink RX2 46 yX2_term ∈ gtb := gtb_in (tb_3 (List.mem_of_getElem? (i := 214) (by decide +kernel))) rfl
theorem ml_X2_49 : Cond.methodLink RX2 49 yX2_unit ∈ gtb := gtb_in (tb_3 (List.mem_of_getElem? (i := 218) (by decide +kernel))) rfl
theorem ml_X2_39 : Cond.methodLink RX2 39 yX5_refuse ∈ gtb := gtb_in (tb_3 (List.mem_of_getElem? (i := 222) (by decide +kernel))) rfl
theorem ml_X2_29 : Cond.methodLink RX2 29 yX1_add ∈ gtb := gtb_in (tb_3 (List.mem_of_getElem? (i := 223) (by decide +kernel))) rfl
theorem ml_X2_26 : Cond.methodLink RX2 26 yX5_advance ∈ gtb := gtb_in (tb_3 (List.mem_of_getElem? (i := 227) (by decide +kernel))) rfl
theorem ml_X2_61 : Cond.methodLink RX2 61 yX2_either ∈ gtb := gtb_in (tb_3 (List.mem_of_getElem? (i := 228) (by decide +kernel))) rfl
theorem ml_X2_64 : Cond.methodLink RX2 64 yX5_pass ∈ gtb := gtb_in (tb_3 (List.mem_of_getElem? (i := 229) (by decide +kernel))) rfl
theorem ml_X5_81 : Cond.methodLink RX5 81 yX5_refuse ∈ gtb := gtb_in (tb_3 (List.mem_of_getElem? (i := 233) (by decide +kernel))) rfl
theorem ml_X2_52 : Cond.methodLink RX2 52 yX2_isTimes ∈ gtb := gtb_in (tb_3 (List.mem_of_getElem? (i := 234) (by decide +kernel))) rfl
theorem ml_X7_75 : Cond.methodLink RX7 75 yX7_toldOnce ∈ gtb := gtb_in (tb_3 (List.mem_of_getElem? (i := 237) (by decide +kernel))) rfl
theorem ml_X7_54 : Cond.methodLink RX7 54 yX5_pass ∈ gtb := gtb_in (tb_4 (List.mem_of_getElem? (i := 1) (by decide +kernel))) rfl
theorem ml_X11_129 : Cond.methodLink RX11 129 yX6_forget ∈ gtb := gtb_in (tb_4 (List.mem_of_getElem? (i := 2) (by decide +kernel))) rfl
theorem ml_L_28 : Cond.methodLink RL 28 yX11_fault ∈ gtb := gtb_in (tb_4 (List.mem_of_getElem? (i := 6) (by decide +kernel))) rfl
theorem ml_L_32 : Cond.methodLink RL 32 yX11_hearth ∈ gtb := gtb_in (tb_4 (List.mem_of_getElem? (i := 10) (by decide +kernel))) rfl
theorem ml_X11_135 : Cond.methodLink RX11 135 yX0_hasHearth ∈ gtb := gtb_in (tb_4 (List.mem_of_getElem? (i := 14) (by decide +kernel))) rfl
theorem ml_X11_150 : Cond.methodLink RX11 150 yX9_setAt ∈ gtb := gtb_in (tb_4 (List.mem_of_getElem? (i := 18) (by decide +kernel))) rfl
theorem ml_X11_154 : Cond.methodLink RX11 154 yX0_quarrelIn ∈ gtb := gtb_in (tb_4 (List.mem_of_getElem? (i := 22) (by decide +kernel))) rfl
theorem ml_L_37 : Cond.methodLink RL 37 yX11_stool ∈ gtb := gtb_in (tb_4 (List.mem_of_getElem? (i := 26) (by decide +kernel))) rfl
theorem ml_X11_157 : Cond.methodLink RX11 157 yX0_hasStool ∈ gtb := gtb_in (tb_4 (List.mem_of_getElem? (i := 30) (by decide +kernel))) rfl
theorem ml_X11_178 : Cond.methodLink RX11 178 yX9_isSaved ∈ gtb := gtb_in (tb_4 (List.mem_of_getElem? (i := 34) (by decide +kernel))) rfl
theorem ml_L_41 : Cond.methodLink RL 41 yX11_load ∈ gtb := gtb_in (tb_4 (List.mem_of_getElem? (i := 38) (by decide +kernel))) rfl
theorem ml_X11_182 : Cond.methodLink RX11 182 yX11_isSent ∈ gtb := gtb_in (tb_4 (List.mem_of_getElem? (i := 42) (by decide +kernel))) rfl
theorem ml_X11_185 : Cond.methodLink RX11 185 yJ6_bitCount_0f7a4 ∈ gtb := gtb_in (tb_4 (List.mem_of_getElem? (i := 46) (by decide +kernel))) rfl
theorem ml_X11_190 : Cond.methodLink RX11 190 yX0_loadOf ∈ gtb := gtb_in (tb_4 (List.mem_of_getElem? (i := 52) (by decide +kernel))) rfl
theorem ml_X0_70 : Cond.methodLink RX0 70 yX0_hasStool ∈ gtb := gtb_in (tb_4 (List.mem_of_getElem? (i := 56) (by decide +kernel))) rfl
theorem ml_X0_74 : Cond.methodLink RX0 74 yX0_hasHearth ∈ gtb := gtb_in (tb_4 (List.mem_of_getElem? (i := 57) (by decide +kernel))) rfl
theorem ml_X0_83 : Cond.methodLink RX0 83 yX0_setTerms ∈ gtb := gtb_in (tb_4 (List.mem_of_getElem? (i := 58) (by decide +kernel))) rfl
theorem ml_X0_99 : Cond.methodLink RX0 99 yJ9_max_7cf53 ∈ gtb := gtb_in (tb_4 (List.mem_of_getElem? (i := 62) (by decide +kernel))) rfl
theorem ml_X0_87 : Cond.methodLink RX0 87 yX1_isTold ∈ gtb := gtb_in (tb_4 (List.mem_of_getElem? (i := 63) (by decide +kernel))) rfl
theorem ml_X0_91 : Cond.methodLink RX0 91 yX1_valueBy ∈ gtb := gtb_in (tb_4 (List.mem_of_getElem? (i := 64) (by decide +kernel))) rfl
theorem ml_X1_25 : Cond.methodLink RX1 25 yX1_joined ∈ gtb := gtb_in (tb_4 (List.mem_of_getElem? (i := 68) (by decide +kernel))) rfl
theorem ml_X0_95 : Cond.methodLink RX0 95 yJ9_min_7cf53 ∈ gtb := gtb_in (tb_4 (List.mem_of_getElem? (i := 71) (by decide +kernel))) rfl
theorem ml_L_66 : Cond.methodLink RL 66 yX11_tonight ∈ gtb := gtb_in (tb_4 (List.mem_of_getElem? (i := 72) (by decide +kernel))) rfl
theorem ml_X11_194 : Cond.methodLink RX11 194 yX9_counting ∈ gtb := gtb_in (tb_4 (List.mem_of_getElem? (i := 76) (by decide +kernel))) rfl
theorem ml_X9_65 : Cond.methodLink RX9 65 yX9_setAt ∈ gtb := gtb_in (tb_4 (List.mem_of_getElem? (i := 80) (by decide +kernel))) rfl
theorem ml_X9_69 : Cond.methodLink RX9 69 yX0_quarrelIn ∈ gtb := gtb_in (tb_4 (List.mem_of_getElem? (i := 81) (by decide +kernel))) rfl
theorem ml_X9_73 : Cond.methodLink RX9 73 yJ6_bitCount_0f7a4 ∈ gtb := gtb_in (tb_4 (List.mem_of_getElem? (i := 82) (by decide +kernel))) rfl
theorem ml_X9_78 : Cond.methodLink RX9 78 yX0_bearing ∈ gtb := gtb_in (tb_4 (List.mem_of_getElem? (i := 83) (by decide +kernel))) rfl
theorem ml_X0_111 : Cond.methodLink RX0 111 yX0_loadOf ∈ gtb := gtb_in (tb_4 (List.mem_of_getElem? (i := 87) (by decide +kernel))) rfl
theorem ml_X11_198 : Cond.methodLink RX11 198 yX9_breaking ∈ gtb := gtb_in (tb_4 (List.mem_of_getElem? (i := 88) (by decide +kernel))) rfl
theorem ml_X9_82 : Cond.methodLink RX9 82 yX0_allStools ∈ gtb := gtb_in (tb_4 (List.mem_of_getElem? (i := 92) (by decide +kernel))) rfl
theorem ml_X9_86 : Cond.methodLink RX9 86 yX9_quarrelling ∈ gtb := gtb_in (tb_4 (List.mem_of_getElem? (i := 96) (by decide +kernel))) rfl
theorem ml_X9_90 : Cond.methodLink RX9 90 yX9_counting ∈ gtb := gtb_in (tb_4 (List.mem_of_getElem? (i := 100) (by decide +kernel))) rfl
theorem ml_X11_202 : Cond.methodLink RX11 202 yX9_quarrelling ∈ gtb := gtb_in (tb_4 (List.mem_of_getElem? (i := 101) (by decide +kernel))) rfl
theorem ml_L_70 : Cond.methodLink RL 70 yX11_walk ∈ gtb := gtb_in (tb_4 (List.mem_of_getElem? (i := 102) (by decide +kernel))) rfl
theorem ml_X11_205 : Cond.methodLink RX11 205 yX0_wayOf ∈ gtb := gtb_in (tb_4 (List.mem_of_getElem? (i := 106) (by decide +kernel))) rfl
theorem ml_X0_77 : Cond.methodLink RX0 77 yJ9_abs_0f7a4 ∈ gtb := gtb_in (tb_4 (List.mem_of_getElem? (i := 110) (by decide +kernel))) rfl
theorem ml_L_118 : Cond.methodLink RL 118 yX11_saved ∈ gtb := gtb_in (tb_4 (List.mem_of_getElem? (i := 113) (by decide +kernel))) rfl
theorem ml_X11_209 : Cond.methodLink RX11 209 yX9_savedBits ∈ gtb := gtb_in (tb_4 (List.mem_of_getElem? (i := 117) (by decide +kernel))) rfl
theorem ml_X9_58 : Cond.methodLink RX9 58 yX9_isSaved ∈ gtb := gtb_in (tb_4 (List.mem_of_getElem? (i := 121) (by decide +kernel))) rfl
theorem ml_L_192 : Cond.methodLink RL 192 yX11_about ∈ gtb := gtb_in (tb_4 (List.mem_of_getElem? (i := 122) (by decide +kernel))) rfl
theorem ml_L_45 : Cond.methodLink RL 45 yX11_send ∈ gtb := gtb_in (tb_4 (List.mem_of_getElem? (i := 126) (by decide +kernel))) rfl
theorem ml_X11_249 : Cond.methodLink RX11 249 yX11_hasRoomNow ∈ gtb := gtb_in (tb_4 (List.mem_of_getElem? (i := 130) (by decide +kernel))) rfl
theorem ml_X11_252 : Cond.methodLink RX11 252 yX4_add ∈ gtb := gtb_in (tb_4 (List.mem_of_getElem? (i := 134) (by decide +kernel))) rfl
theorem ml_X4_26 : Cond.methodLink RX4 26 ⟨RJ10, "arraycopy", "(Ljava/lang/Object;ILjava/lang/Object;II)V"⟩ ∈ gtb := gtb_in (tb_4 (List.mem_of_getElem? (i := 138) (by decide +kernel))) rfl
theorem ml_L_49 : Cond.methodLink RL 49 yX11_call ∈ gtb := gtb_in (tb_4 (List.mem_of_getElem? (i := 139) (by decide +kernel))) rfl
theorem ml_L_53 : Cond.methodLink RL 53 yX11_evening ∈ gtb := gtb_in (tb_4 (List.mem_of_getElem? (i := 143) (by decide +kernel))) rfl
theorem ml_X11_255 : Cond.methodLink RX11 255 yX9_drawCold ∈ gtb := gtb_in (tb_4 (List.mem_of_getElem? (i := 147) (by decide +kernel))) rfl
theorem ml_X11_258 : Cond.methodLink RX11 258 yX9_passEvening ∈ gtb := gtb_in (tb_4 (List.mem_of_getElem? (i := 151) (by decide +kernel))) rfl
theorem ml_X9_97 : Cond.methodLink RX9 97 yX9_rest ∈ gtb := gtb_in (tb_4 (List.mem_of_getElem? (i := 155) (by decide +kernel))) rfl
theorem ml_X9_105 : Cond.methodLink RX9 105 yJ9_min_7cf53 ∈ gtb := gtb_in (tb_4 (List.mem_of_getElem? (i := 159) (by decide +kernel))) rfl
theorem ml_X9_101 : Cond.methodLink RX9 101 yX9_kneel ∈ gtb := gtb_in (tb_4 (List.mem_of_getElem? (i := 160) (by decide +kernel))) rfl
theorem ml_X9_111 : Cond.methodLink RX9 111 yX0_loadOf ∈ gtb := gtb_in (tb_4 (List.mem_of_getElem? (i := 164) (by decide +kernel))) rfl
theorem ml_X9_114 : Cond.methodLink RX9 114 yX0_wearOf ∈ gtb := gtb_in (tb_4 (List.mem_of_getElem? (i := 165) (by decide +kernel))) rfl
theorem ml_L_57 : Cond.methodLink RL 57 yX11_undo ∈ gtb := gtb_in (tb_4 (List.mem_of_getElem? (i := 169) (by decide +kernel))) rfl
theorem ml_X11_262 : Cond.methodLink RX11 262 yX4_stepBack ∈ gtb := gtb_in (tb_4 (List.mem_of_getElem? (i := 173) (by decide +kernel))) rfl
theorem ml_X4_32 : Cond.methodLink RX4 32 yX9_takeFrom ∈ gtb := gtb_in (tb_4 (List.mem_of_getElem? (i := 177) (by decide +kernel))) rfl
theorem ml_L_62 : Cond.methodLink RL 62 yX11_redo ∈ gtb := gtb_in (tb_4 (List.mem_of_getElem? (i := 181) (by decide +kernel))) rfl
theorem ml_X11_266 : Cond.methodLink RX11 266 yX4_stepOn ∈ gtb := gtb_in (tb_4 (List.mem_of_getElem? (i := 185) (by decide +kernel))) rfl
theorem ml_L_184 : Cond.methodLink RL 184 yX11_image ∈ gtb := gtb_in (tb_4 (List.mem_of_getElem? (i := 189) (by decide +kernel))) rfl
theorem ml_X11_269 : Cond.methodLink RX11 269 yX9_keepIn ∈ gtb := gtb_in (tb_4 (List.mem_of_getElem? (i := 193) (by decide +kernel))) rfl
theorem ml_L_188 : Cond.methodLink RL 188 yX11_back ∈ gtb := gtb_in (tb_4 (List.mem_of_getElem? (i := 194) (by decide +kernel))) rfl
theorem ml_X11_273 : Cond.methodLink RX11 273 yX9_takeFrom ∈ gtb := gtb_in (tb_4 (List.mem_of_getElem? (i := 198) (by decide +kernel))) rfl
theorem ml_L_74 : Cond.methodLink RL 74 yX11_round ∈ gtb := gtb_in (tb_4 (List.mem_of_getElem? (i := 199) (by decide +kernel))) rfl
theorem ml_X11_276 : Cond.methodLink RX11 276 yX8_find ∈ gtb := gtb_in (tb_4 (List.mem_of_getElem? (i := 203) (by decide +kernel))) rfl
theorem ml_X8_39 : Cond.methodLink RX8 39 yJ9_min_7cf53 ∈ gtb := gtb_in (tb_4 (List.mem_of_getElem? (i := 207) (by decide +kernel))) rfl
theorem ml_X8_46 : Cond.methodLink RX8 46 yJ7_fill_53178 ∈ gtb := gtb_in (tb_4 (List.mem_of_getElem? (i := 209) (by decide +kernel))) rfl
theorem ml_X8_55 : Cond.methodLink RX8 55 yX8_priceSets ∈ gtb := gtb_in (tb_4 (List.mem_of_getElem? (i := 210) (by decide +kernel))) rfl
theorem ml_X8_74 : Cond.methodLink RX8 74 yX0_bearing ∈ gtb := gtb_in (tb_4 (List.mem_of_getElem? (i := 214) (by decide +kernel))) rfl
theorem ml_X8_78 : Cond.methodLink RX8 78 yX8_priceOf ∈ gtb := gtb_in (tb_4 (List.mem_of_getElem? (i := 215) (by decide +kernel))) rfl
theorem ml_X8_82 : Cond.methodLink RX8 82 yJ6_bitCount_0f7a4 ∈ gtb := gtb_in (tb_4 (List.mem_of_getElem? (i := 219) (by decide +kernel))) rfl
theorem ml_X8_88 : Cond.methodLink RX8 88 yX0_quarrelIn ∈ gtb := gtb_in (tb_4 (List.mem_of_getElem? (i := 220) (by decide +kernel))) rfl
theorem ml_X8_92 : Cond.methodLink RX8 92 yX0_wayOf ∈ gtb := gtb_in (tb_4 (List.mem_of_getElem? (i := 221) (by decide +kernel))) rfl
theorem ml_X8_63 : Cond.methodLink RX8 63 yX8_orderOf ∈ gtb := gtb_in (tb_4 (List.mem_of_getElem? (i := 223) (by decide +kernel))) rfl
theorem ml_X8_59 : Cond.methodLink RX8 59 yX8_goOnWithHearth ∈ gtb := gtb_in (tb_4 (List.mem_of_getElem? (i := 228) (by decide +kernel))) rfl
theorem ml_X8_96 : Cond.methodLink RX8 96 ⟨RJ10, "arraycopy", "(Ljava/lang/Object;ILjava/lang/Object;II)V"⟩ ∈ gtb := gtb_in (tb_4 (List.mem_of_getElem? (i := 232) (by decide +kernel))) rfl
theorem ml_X8_67 : Cond.methodLink RX8 67 yX8_unpack ∈ gtb := gtb_in (tb_4 (List.mem_of_getElem? (i := 233) (by decide +kernel))) rfl
theorem ml_X8_105 : Cond.methodLink RX8 105 yJ9_floorMod_7cf53 ∈ gtb := gtb_in (tb_4 (List.mem_of_getElem? (i := 237) (by decide +kernel))) rfl
theorem ml_X8_108 : Cond.methodLink RX8 108 yJ9_floorDiv_7cf53 ∈ gtb := gtb_in (tb_5 (List.mem_of_getElem? (i := 0) (by decide +kernel))) rfl
theorem ml_X11_280 : Cond.methodLink RX11 280 yX11_layDownSending ∈ gtb := gtb_in (tb_5 (List.mem_of_getElem? (i := 3) (by decide +kernel))) rfl
theorem ml_X11_365 : Cond.methodLink RX11 365 ⟨RJ10, "arraycopy", "(Ljava/lang/Object;ILjava/lang/Object;II)V"⟩ ∈ gtb := gtb_in (tb_5 (List.mem_of_getElem? (i := 7) (by decide +kernel))) rfl
theorem ml_L_78 : Cond.methodLink RL 78 yX11_service ∈ gtb := gtb_in (tb_5 (List.mem_of_getElem? (i := 8) (by decide +kernel))) rfl
theorem ml_L_82 : Cond.methodLink RL 82 yX11_team ∈ gtb := gtb_in (tb_5 (List.mem_of_getElem? (i := 12) (by decide +kernel))) rfl
theorem ml_X11_288 : Cond.methodLink RX11 288 yX11_wouldAllCount ∈ gtb := gtb_in (tb_5 (List.mem_of_getElem? (i := 16) (by decide +kernel))) rfl
theorem ml_X11_315 : Cond.methodLink RX11 315 yX0_bearing ∈ gtb := gtb_in (tb_5 (List.mem_of_getElem? (i := 20) (by decide +kernel))) rfl
theorem ml_L_94 : Cond.methodLink RL 94 yX11_change ∈ gtb := gtb_in (tb_5 (List.mem_of_getElem? (i := 21) (by decide +kernel))) rfl
theorem ml_X11_292 : Cond.methodLink RX11 292 yX11_countingExchanged ∈ gtb := gtb_in (tb_5 (List.mem_of_getElem? (i := 25) (by decide +kernel))) rfl
theorem ml_X11_332 : Cond.methodLink RX11 332 yX9_copy ∈ gtb := gtb_in (tb_5 (List.mem_of_getElem? (i := 29) (by decide +kernel))) rfl
theorem ml_L_98 : Cond.methodLink RL 98 yX11_guests ∈ gtb := gtb_in (tb_5 (List.mem_of_getElem? (i := 33) (by decide +kernel))) rfl
theorem ml_X11_295 : Cond.methodLink RX11 295 yX3_findRests ∈ gtb := gtb_in (tb_5 (List.mem_of_getElem? (i := 37) (by decide +kernel))) rfl
theorem ml_X3_31 : Cond.methodLink RX3 31 yX3_weigh ∈ gtb := gtb_in (tb_5 (List.mem_of_getElem? (i := 41) (by decide +kernel))) rfl
theorem ml_X3_39 : Cond.methodLink RX3 39 yX0_bearing ∈ gtb := gtb_in (tb_5 (List.mem_of_getElem? (i := 45) (by decide +kernel))) rfl
theorem ml_X3_47 : Cond.methodLink RX3 47 yX0_quarrelIn ∈ gtb := gtb_in (tb_5 (List.mem_of_getElem? (i := 46) (by decide +kernel))) rfl
theorem ml_X3_51 : Cond.methodLink RX3 51 yX3_worth ∈ gtb := gtb_in (tb_5 (List.mem_of_getElem? (i := 47) (by decide +kernel))) rfl
theorem ml_X3_55 : Cond.methodLink RX3 55 yX0_wayOf ∈ gtb := gtb_in (tb_5 (List.mem_of_getElem? (i := 50) (by decide +kernel))) rfl
theorem ml_X3_35 : Cond.methodLink RX3 35 yX3_staysAt ∈ gtb := gtb_in (tb_5 (List.mem_of_getElem? (i := 51) (by decide +kernel))) rfl
theorem ml_X3_59 : Cond.methodLink RX3 59 yX3_worthAt ∈ gtb := gtb_in (tb_5 (List.mem_of_getElem? (i := 55) (by decide +kernel))) rfl
theorem ml_L_150 : Cond.methodLink RL 150 yX11_lies ∈ gtb := gtb_in (tb_5 (List.mem_of_getElem? (i := 59) (by decide +kernel))) rfl
theorem ml_L_102 : Cond.methodLink RL 102 yX11_cover ∈ gtb := gtb_in (tb_5 (List.mem_of_getElem? (i := 63) (by decide +kernel))) rfl
theorem ml_X11_305 : Cond.methodLink RX11 305 yX11_findWhereEachCould ∈ gtb := gtb_in (tb_5 (List.mem_of_getElem? (i := 67) (by decide +kernel))) rfl
theorem ml_X11_308 : Cond.methodLink RX11 308 yX11_coversAll ∈ gtb := gtb_in (tb_5 (List.mem_of_getElem? (i := 71) (by decide +kernel))) rfl
theorem ml_L_126 : Cond.methodLink RL 126 yX11_easiest ∈ gtb := gtb_in (tb_5 (List.mem_of_getElem? (i := 75) (by decide +kernel))) rfl
theorem ml_L_130 : Cond.methodLink RL 130 yX11_forlorn ∈ gtb := gtb_in (tb_5 (List.mem_of_getElem? (i := 79) (by decide +kernel))) rfl
theorem ml_X11_311 : Cond.methodLink RX11 311 yX0_allStools ∈ gtb := gtb_in (tb_5 (List.mem_of_getElem? (i := 83) (by decide +kernel))) rfl
theorem ml_L_134 : Cond.methodLink RL 134 yX11_nearest ∈ gtb := gtb_in (tb_5 (List.mem_of_getElem? (i := 84) (by decide +kernel))) rfl
theorem ml_L_106 : Cond.methodLink RL 106 yX11_pilgrim ∈ gtb := gtb_in (tb_5 (List.mem_of_getElem? (i := 88) (by decide +kernel))) rfl
theorem ml_X11_318 : Cond.methodLink RX11 318 yJ9_min_7cf53 ∈ gtb := gtb_in (tb_5 (List.mem_of_getElem? (i := 92) (by decide +kernel))) rfl
theorem ml_X11_323 : Cond.methodLink RX11 323 yJ9_max_7cf53 ∈ gtb := gtb_in (tb_5 (List.mem_of_getElem? (i := 93) (by decide +kernel))) rfl
theorem ml_X11_326 : Cond.methodLink RX11 326 yJ9_abs_0f7a4 ∈ gtb := gtb_in (tb_5 (List.mem_of_getElem? (i := 94) (by decide +kernel))) rfl
theorem ml_L_138 : Cond.methodLink RL 138 yX11_law ∈ gtb := gtb_in (tb_5 (List.mem_of_getElem? (i := 95) (by decide +kernel))) rfl
theorem ml_L_142 : Cond.methodLink RL 142 yX11_schisms ∈ gtb := gtb_in (tb_5 (List.mem_of_getElem? (i := 99) (by decide +kernel))) rfl
theorem ml_L_146 : Cond.methodLink RL 146 yX11_odds ∈ gtb := gtb_in (tb_5 (List.mem_of_getElem? (i := 103) (by decide +kernel))) rfl
theorem ml_X11_329 : Cond.methodLink RX11 329 yX11_commonDivisor ∈ gtb := gtb_in (tb_5 (List.mem_of_getElem? (i := 107) (by decide +kernel))) rfl
theorem ml_L_86 : Cond.methodLink RL 86 yX11_lasts ∈ gtb := gtb_in (tb_5 (List.mem_of_getElem? (i := 110) (by decide +kernel))) rfl
theorem ml_X11_335 : Cond.methodLink RX11 335 yX9_kneel ∈ gtb := gtb_in (tb_5 (List.mem_of_getElem? (i := 114) (by decide +kernel))) rfl
theorem ml_L_90 : Cond.methodLink RL 90 yX11_soon ∈ gtb := gtb_in (tb_5 (List.mem_of_getElem? (i := 115) (by decide +kernel))) rfl
theorem ml_L_110 : Cond.methodLink RL 110 yX11_will ∈ gtb := gtb_in (tb_5 (List.mem_of_getElem? (i := 119) (by decide +kernel))) rfl
theorem ml_X11_339 : Cond.methodLink RX11 339 yX11_isAhead ∈ gtb := gtb_in (tb_5 (List.mem_of_getElem? (i := 123) (by decide +kernel))) rfl
theorem ml_L_114 : Cond.methodLink RL 114 yX11_strength ∈ gtb := gtb_in (tb_5 (List.mem_of_getElem? (i := 127) (by decide +kernel))) rfl
theorem ml_L_122 : Cond.methodLink RL 122 yX11_grace ∈ gtb := gtb_in (tb_5 (List.mem_of_getElem? (i := 131) (by decide +kernel))) rfl
theorem ml_L_154 : Cond.methodLink RL 154 yX11_dented ∈ gtb := gtb_in (tb_5 (List.mem_of_getElem? (i := 135) (by decide +kernel))) rfl
theorem ml_X11_342 : Cond.methodLink RX11 342 yX6_tell ∈ gtb := gtb_in (tb_5 (List.mem_of_getElem? (i := 139) (by decide +kernel))) rfl
theorem ml_L_159 : Cond.methodLink RL 159 yX11_held ∈ gtb := gtb_in (tb_5 (List.mem_of_getElem? (i := 143) (by decide +kernel))) rfl
theorem ml_L_163 : Cond.methodLink RL 163 yX11_untell ∈ gtb := gtb_in (tb_5 (List.mem_of_getElem? (i := 147) (by decide +kernel))) rfl
theorem ml_X11_346 : Cond.methodLink RX11 346 yX6_takeBack ∈ gtb := gtb_in (tb_5 (List.mem_of_getElem? (i := 151) (by decide +kernel))) rfl
theorem ml_L_168 : Cond.methodLink RL 168 yX11_later ∈ gtb := gtb_in (tb_5 (List.mem_of_getElem? (i := 155) (by decide +kernel))) rfl
theorem ml_X11_349 : Cond.methodLink RX11 349 yX6_goOn ∈ gtb := gtb_in (tb_5 (List.mem_of_getElem? (i := 159) (by decide +kernel))) rfl
theorem ml_L_172 : Cond.methodLink RL 172 yX11_rows ∈ gtb := gtb_in (tb_5 (List.mem_of_getElem? (i := 164) (by decide +kernel))) rfl
theorem ml_X11_352 : Cond.methodLink RX11 352 yX6_tallyRows ∈ gtb := gtb_in (tb_5 (List.mem_of_getElem? (i := 168) (by decide +kernel))) rfl
theorem ml_X6_68 : Cond.methodLink RX6 68 yX6_gatherBounds ∈ gtb := gtb_in (tb_5 (List.mem_of_getElem? (i := 172) (by decide +kernel))) rfl
theorem ml_X6_72 : Cond.methodLink RX6 72 yJ7_fill_53178 ∈ gtb := gtb_in (tb_5 (List.mem_of_getElem? (i := 176) (by decide +kernel))) rfl
theorem ml_X6_92 : Cond.methodLink RX6 92 yX6_narrow ∈ gtb := gtb_in (tb_5 (List.mem_of_getElem? (i := 177) (by decide +kernel))) rfl
theorem ml_X6_96 : Cond.methodLink RX6 96 yJ9_max_7cf53 ∈ gtb := gtb_in (tb_5 (List.mem_of_getElem? (i := 181) (by decide +kernel))) rfl
theorem ml_X6_102 : Cond.methodLink RX6 102 yJ9_min_7cf53 ∈ gtb := gtb_in (tb_5 (List.mem_of_getElem? (i := 182) (by decide +kernel))) rfl
theorem ml_X6_78 : Cond.methodLink RX6 78 yX9_begin ∈ gtb := gtb_in (tb_5 (List.mem_of_getElem? (i := 183) (by decide +kernel))) rfl
theorem ml_X6_88 : Cond.methodLink RX6 88 yX6_rowsFrom ∈ gtb := gtb_in (tb_5 (List.mem_of_getElem? (i := 184) (by decide +kernel))) rfl
theorem ml_X6_115 : Cond.methodLink RX6 115 yX9_kneel ∈ gtb := gtb_in (tb_5 (List.mem_of_getElem? (i := 188) (by decide +kernel))) rfl
theorem ml_X6_119 : Cond.methodLink RX6 119 yX9_rest ∈ gtb := gtb_in (tb_5 (List.mem_of_getElem? (i := 189) (by decide +kernel))) rfl
theorem ml_X6_123 : Cond.methodLink RX6 123 yX6_fits ∈ gtb := gtb_in (tb_5 (List.mem_of_getElem? (i := 190) (by decide +kernel))) rfl
theorem ml_L_176 : Cond.methodLink RL 176 yX11_sure ∈ gtb := gtb_in (tb_5 (List.mem_of_getElem? (i := 194) (by decide +kernel))) rfl
theorem ml_L_180 : Cond.methodLink RL 180 yX11_ask ∈ gtb := gtb_in (tb_5 (List.mem_of_getElem? (i := 198) (by decide +kernel))) rfl
theorem ml_X11_359 : Cond.methodLink RX11 359 yX6_mostLeft ∈ gtb := gtb_in (tb_5 (List.mem_of_getElem? (i := 202) (by decide +kernel))) rfl
theorem ml_L_12 : Cond.methodLink RL 12 yX12_init ∈ gtb := gtb_in (tb_5 (List.mem_of_getElem? (i := 208) (by decide +kernel))) rfl
theorem ml_X12_1 : Cond.methodLink RX12 1 ⟨"java/lang/Object", "<init>", "()V"⟩ ∈ gtb := gtb_in (tb_5 (List.mem_of_getElem? (i := 211) (by decide +kernel))) rfl
theorem ml_L_17 : Cond.methodLink RL 17 yX12_feed ∈ gtb := gtb_in (tb_6 (List.mem_of_getElem? (i := 219) (by decide +kernel))) rfl
theorem ml_X12_169 : Cond.methodLink RX12 169 yX12_four ∈ gtb := gtb_in (tb_6 (List.mem_of_getElem? (i := 223) (by decide +kernel))) rfl
theorem ml_L_22 : Cond.methodLink RL 22 yX12_end ∈ gtb := gtb_in (tb_6 (List.mem_of_getElem? (i := 227) (by decide +kernel))) rfl
theorem ml_L_27 : Cond.methodLink RL 27 yX12_chapel ∈ gtb := gtb_in (tb_6 (List.mem_of_getElem? (i := 231) (by decide +kernel))) rfl
theorem ml_X12_389 : Cond.methodLink RX12 389 yX12_readAll ∈ gtb := gtb_in (tb_6 (List.mem_of_getElem? (i := 235) (by decide +kernel))) rfl
theorem ml_X12_258 : Cond.methodLink RX12 258 yX12_token ∈ gtb := gtb_in (tb_6 (List.mem_of_getElem? (i := 239) (by decide +kernel))) rfl
theorem ml_X12_179 : Cond.methodLink RX12 179 yX12_here ∈ gtb := gtb_in (tb_7 (List.mem_of_getElem? (i := 3) (by decide +kernel))) rfl
theorem ml_X12_196 : Cond.methodLink RX12 196 yX12_isLetter ∈ gtb := gtb_in (tb_7 (List.mem_of_getElem? (i := 7) (by decide +kernel))) rfl
theorem ml_X12_200 : Cond.methodLink RX12 200 yX12_isDigit ∈ gtb := gtb_in (tb_7 (List.mem_of_getElem? (i := 10) (by decide +kernel))) rfl
theorem ml_X12_203 : Cond.methodLink RX12 203 yX12_isSign ∈ gtb := gtb_in (tb_7 (List.mem_of_getElem? (i := 13) (by decide +kernel))) rfl
theorem ml_X12_386 : Cond.methodLink RX12 386 yX12_readLine ∈ gtb := gtb_in (tb_7 (List.mem_of_getElem? (i := 16) (by decide +kernel))) rfl
theorem ml_X12_251 : Cond.methodLink RX12 251 yX12_isWord ∈ gtb := gtb_in (tb_7 (List.mem_of_getElem? (i := 21) (by decide +kernel))) rfl
theorem ml_X12_358 : Cond.methodLink RX12 358 yX12_readHearth ∈ gtb := gtb_in (tb_7 (List.mem_of_getElem? (i := 25) (by decide +kernel))) rfl
theorem ml_X12_349 : Cond.methodLink RX12 349 yX12_newName ∈ gtb := gtb_in (tb_7 (List.mem_of_getElem? (i := 29) (by decide +kernel))) rfl
theorem ml_X12_273 : Cond.methodLink RX12 273 yX12_isName ∈ gtb := gtb_in (tb_7 (List.mem_of_getElem? (i := 33) (by decide +kernel))) rfl
theorem ml_X12_247 : Cond.methodLink RX12 247 yX12_isOwn ∈ gtb := gtb_in (tb_7 (List.mem_of_getElem? (i := 37) (by decide +kernel))) rfl
theorem ml_X12_255 : Cond.methodLink RX12 255 yX12_wrong ∈ gtb := gtb_in (tb_7 (List.mem_of_getElem? (i := 59) (by decide +kernel))) rfl
theorem ml_X12_269 : Cond.methodLink RX12 269 yX12_told ∈ gtb := gtb_in (tb_7 (List.mem_of_getElem? (i := 63) (by decide +kernel))) rfl
theorem ml_X12_261 : Cond.methodLink RX12 261 yX12_want ∈ gtb := gtb_in (tb_7 (List.mem_of_getElem? (i := 67) (by decide +kernel))) rfl
theorem ml_X12_265 : Cond.methodLink RX12 265 yX12_toldNumber ∈ gtb := gtb_in (tb_7 (List.mem_of_getElem? (i := 71) (by decide +kernel))) rfl
theorem ml_X12_352 : Cond.methodLink RX12 352 yX12_option ∈ gtb := gtb_in (tb_7 (List.mem_of_getElem? (i := 75) (by decide +kernel))) rfl
theorem ml_X12_361 : Cond.methodLink RX12 361 yX12_readStool ∈ gtb := gtb_in (tb_7 (List.mem_of_getElem? (i := 79) (by decide +kernel))) rfl
theorem ml_X12_364 : Cond.methodLink RX12 364 yX12_formula ∈ gtb := gtb_in (tb_7 (List.mem_of_getElem? (i := 83) (by decide +kernel))) rfl
theorem ml_X12_314 : Cond.methodLink RX12 314 yX12_unit ∈ gtb := gtb_in (tb_7 (List.mem_of_getElem? (i := 87) (by decide +kernel))) rfl
theorem ml_X12_298 : Cond.methodLink RX12 298 yX12_mayNot ∈ gtb := gtb_in (tb_7 (List.mem_of_getElem? (i := 91) (by decide +kernel))) rfl
theorem ml_X12_282 : Cond.methodLink RX12 282 yX12_tight ∈ gtb := gtb_in (tb_7 (List.mem_of_getElem? (i := 95) (by decide +kernel))) rfl
theorem ml_X12_301 : Cond.methodLink RX12 301 yX12_openUp ∈ gtb := gtb_in (tb_7 (List.mem_of_getElem? (i := 98) (by decide +kernel))) rfl
theorem ml_X12_304 : Cond.methodLink RX12 304 yX12_isFull ∈ gtb := gtb_in (tb_7 (List.mem_of_getElem? (i := 102) (by decide +kernel))) rfl
theorem ml_X12_307 : Cond.methodLink RX12 307 yX12_countUnit ∈ gtb := gtb_in (tb_7 (List.mem_of_getElem? (i := 106) (by decide +kernel))) rfl
theorem ml_X12_310 : Cond.methodLink RX12 310 yX12_asked ∈ gtb := gtb_in (tb_7 (List.mem_of_getElem? (i := 110) (by decide +kernel))) rfl
theorem ml_X12_285 : Cond.methodLink RX12 285 yX12_add ∈ gtb := gtb_in (tb_7 (List.mem_of_getElem? (i := 114) (by decide +kernel))) rfl
theorem ml_X12_317 : Cond.methodLink RX12 317 yX12_sign ∈ gtb := gtb_in (tb_7 (List.mem_of_getElem? (i := 118) (by decide +kernel))) rfl
theorem ml_X12_320 : Cond.methodLink RX12 320 yX12_hasBracket ∈ gtb := gtb_in (tb_7 (List.mem_of_getElem? (i := 122) (by decide +kernel))) rfl
theorem ml_X12_323 : Cond.methodLink RX12 323 yX12_close ∈ gtb := gtb_in (tb_7 (List.mem_of_getElem? (i := 126) (by decide +kernel))) rfl
theorem ml_X12_326 : Cond.methodLink RX12 326 yX12_hasRelation ∈ gtb := gtb_in (tb_7 (List.mem_of_getElem? (i := 130) (by decide +kernel))) rfl
theorem ml_X12_404 : Cond.methodLink RX12 404 yX12_begin ∈ gtb := gtb_in (tb_7 (List.mem_of_getElem? (i := 134) (by decide +kernel))) rfl
theorem ml_X12_407 : Cond.methodLink RX12 407 yX12_keepAir ∈ gtb := gtb_in (tb_7 (List.mem_of_getElem? (i := 138) (by decide +kernel))) rfl
theorem ml_L_31 : Cond.methodLink RL 31 yX12_fault ∈ gtb := gtb_in (tb_7 (List.mem_of_getElem? (i := 142) (by decide +kernel))) rfl
theorem ml_L_36 : Cond.methodLink RL 36 yX12_hearth ∈ gtb := gtb_in (tb_7 (List.mem_of_getElem? (i := 146) (by decide +kernel))) rfl
theorem ml_X12_448 : Cond.methodLink RX12 448 yX12_isHearth ∈ gtb := gtb_in (tb_7 (List.mem_of_getElem? (i := 150) (by decide +kernel))) rfl
theorem ml_X12_422 : Cond.methodLink RX12 422 yX12_isIn ∈ gtb := gtb_in (tb_7 (List.mem_of_getElem? (i := 154) (by decide +kernel))) rfl
theorem ml_X12_451 : Cond.methodLink RX12 451 yX12_fill ∈ gtb := gtb_in (tb_7 (List.mem_of_getElem? (i := 157) (by decide +kernel))) rfl
theorem ml_X12_430 : Cond.methodLink RX12 430 yX12_sentTo ∈ gtb := gtb_in (tb_7 (List.mem_of_getElem? (i := 161) (by decide +kernel))) rfl
theorem ml_X12_329 : Cond.methodLink RX12 329 yX12_truth ∈ gtb := gtb_in (tb_7 (List.mem_of_getElem? (i := 165) (by decide +kernel))) rfl
theorem ml_X12_439 : Cond.methodLink RX12 439 yX12_quarrels ∈ gtb := gtb_in (tb_7 (List.mem_of_getElem? (i := 168) (by decide +kernel))) rfl
theorem ml_L_40 : Cond.methodLink RL 40 yX12_stool ∈ gtb := gtb_in (tb_7 (List.mem_of_getElem? (i := 172) (by decide +kernel))) rfl
theorem ml_X12_454 : Cond.methodLink RX12 454 yX12_isStool ∈ gtb := gtb_in (tb_7 (List.mem_of_getElem? (i := 176) (by decide +kernel))) rfl
theorem ml_X12_457 : Cond.methodLink RX12 457 yX12_isSaved ∈ gtb := gtb_in (tb_7 (List.mem_of_getElem? (i := 180) (by decide +kernel))) rfl
theorem ml_L_44 : Cond.methodLink RL 44 yX12_load ∈ gtb := gtb_in (tb_7 (List.mem_of_getElem? (i := 184) (by decide +kernel))) rfl
theorem ml_X12_442 : Cond.methodLink RX12 442 yX12_loadOf ∈ gtb := gtb_in (tb_7 (List.mem_of_getElem? (i := 188) (by decide +kernel))) rfl
theorem ml_X12_433 : Cond.methodLink RX12 433 yX12_members ∈ gtb := gtb_in (tb_7 (List.mem_of_getElem? (i := 192) (by decide +kernel))) rfl
theorem ml_X12_436 : Cond.methodLink RX12 436 yX12_loadAt ∈ gtb := gtb_in (tb_7 (List.mem_of_getElem? (i := 195) (by decide +kernel))) rfl
theorem ml_X12_336 : Cond.methodLink RX12 336 yX12_heavyOf ∈ gtb := gtb_in (tb_7 (List.mem_of_getElem? (i := 199) (by decide +kernel))) rfl
theorem ml_X12_426 : Cond.methodLink RX12 426 yX12_worked ∈ gtb := gtb_in (tb_7 (List.mem_of_getElem? (i := 203) (by decide +kernel))) rfl
theorem ml_X12_339 : Cond.methodLink RX12 339 yX12_done ∈ gtb := gtb_in (tb_7 (List.mem_of_getElem? (i := 207) (by decide +kernel))) rfl
theorem ml_X12_343 : Cond.methodLink RX12 343 yX12_within ∈ gtb := gtb_in (tb_7 (List.mem_of_getElem? (i := 210) (by decide +kernel))) rfl
theorem ml_L_48 : Cond.methodLink RL 48 yX12_send ∈ gtb := gtb_in (tb_7 (List.mem_of_getElem? (i := 213) (by decide +kernel))) rfl
theorem ml_X12_460 : Cond.methodLink RX12 460 yX12_hasRoom ∈ gtb := gtb_in (tb_7 (List.mem_of_getElem? (i := 217) (by decide +kernel))) rfl
theorem ml_X12_463 : Cond.methodLink RX12 463 yX12_act ∈ gtb := gtb_in (tb_7 (List.mem_of_getElem? (i := 221) (by decide +kernel))) rfl
theorem ml_L_52 : Cond.methodLink RL 52 yX12_call ∈ gtb := gtb_in (tb_7 (List.mem_of_getElem? (i := 225) (by decide +kernel))) rfl
theorem ml_L_56 : Cond.methodLink RL 56 yX12_evening ∈ gtb := gtb_in (tb_7 (List.mem_of_getElem? (i := 229) (by decide +kernel))) rfl
theorem ml_X12_466 : Cond.methodLink RX12 466 yX12_drawCold ∈ gtb := gtb_in (tb_7 (List.mem_of_getElem? (i := 233) (by decide +kernel))) rfl
theorem ml_X12_469 : Cond.methodLink RX12 469 yX12_goEvening ∈ gtb := gtb_in (tb_7 (List.mem_of_getElem? (i := 237) (by decide +kernel))) rfl
theorem ml_X12_445 : Cond.methodLink RX12 445 yX12_fareOf ∈ gtb := gtb_in (tb_8 (List.mem_of_getElem? (i := 1) (by decide +kernel))) rfl
theorem ml_L_61 : Cond.methodLink RL 61 yX12_undo ∈ gtb := gtb_in (tb_8 (List.mem_of_getElem? (i := 5) (by decide +kernel))) rfl
theorem ml_X12_472 : Cond.methodLink RX12 472 yX12_exchange ∈ gtb := gtb_in (tb_8 (List.mem_of_getElem? (i := 9) (by decide +kernel))) rfl
theorem ml_L_65 : Cond.methodLink RL 65 yX12_redo ∈ gtb := gtb_in (tb_8 (List.mem_of_getElem? (i := 13) (by decide +kernel))) rfl
theorem ml_L_69 : Cond.methodLink RL 69 yX12_tonight ∈ gtb := gtb_in (tb_8 (List.mem_of_getElem? (i := 17) (by decide +kernel))) rfl
theorem ml_X12_475 : Cond.methodLink RX12 475 yX12_whoFares ∈ gtb := gtb_in (tb_8 (List.mem_of_getElem? (i := 21) (by decide +kernel))) rfl
theorem ml_L_73 : Cond.methodLink RL 73 yX12_walk ∈ gtb := gtb_in (tb_8 (List.mem_of_getElem? (i := 25) (by decide +kernel))) rfl
theorem ml_X12_484 : Cond.methodLink RX12 484 yX12_walkOf ∈ gtb := gtb_in (tb_8 (List.mem_of_getElem? (i := 29) (by decide +kernel))) rfl
theorem ml_X12_481 : Cond.methodLink RX12 481 yX12_wayOf ∈ gtb := gtb_in (tb_8 (List.mem_of_getElem? (i := 33) (by decide +kernel))) rfl
theorem ml_X12_478 : Cond.methodLink RX12 478 yX12_plain ∈ gtb := gtb_in (tb_8 (List.mem_of_getElem? (i := 37) (by decide +kernel))) rfl
theorem ml_L_77 : Cond.methodLink RL 77 yX12_round ∈ gtb := gtb_in (tb_8 (List.mem_of_getElem? (i := 40) (by decide +kernel))) rfl
theorem ml_X12_487 : Cond.methodLink RX12 487 yX12_power ∈ gtb := gtb_in (tb_8 (List.mem_of_getElem? (i := 44) (by decide +kernel))) rfl
theorem ml_X12_490 : Cond.methodLink RX12 490 yX12_laySending ∈ gtb := gtb_in (tb_8 (List.mem_of_getElem? (i := 47) (by decide +kernel))) rfl
theorem ml_X12_493 : Cond.methodLink RX12 493 yX12_putSending ∈ gtb := gtb_in (tb_8 (List.mem_of_getElem? (i := 51) (by decide +kernel))) rfl
theorem ml_L_81 : Cond.methodLink RL 81 yX12_service ∈ gtb := gtb_in (tb_8 (List.mem_of_getElem? (i := 55) (by decide +kernel))) rfl
theorem ml_X12_497 : Cond.methodLink RX12 497 yX12_serves ∈ gtb := gtb_in (tb_8 (List.mem_of_getElem? (i := 60) (by decide +kernel))) rfl
theorem ml_L_85 : Cond.methodLink RL 85 yX12_team ∈ gtb := gtb_in (tb_8 (List.mem_of_getElem? (i := 64) (by decide +kernel))) rfl
theorem ml_X12_500 : Cond.methodLink RX12 500 yX12_sendJust ∈ gtb := gtb_in (tb_8 (List.mem_of_getElem? (i := 68) (by decide +kernel))) rfl
theorem ml_L_89 : Cond.methodLink RL 89 yX12_lasts ∈ gtb := gtb_in (tb_8 (List.mem_of_getElem? (i := 72) (by decide +kernel))) rfl
theorem ml_X12_503 : Cond.methodLink RX12 503 yX12_countsAlone ∈ gtb := gtb_in (tb_8 (List.mem_of_getElem? (i := 76) (by decide +kernel))) rfl
theorem ml_L_93 : Cond.methodLink RL 93 yX12_soon ∈ gtb := gtb_in (tb_8 (List.mem_of_getElem? (i := 80) (by decide +kernel))) rfl
theorem ml_L_97 : Cond.methodLink RL 97 yX12_change ∈ gtb := gtb_in (tb_8 (List.mem_of_getElem? (i := 84) (by decide +kernel))) rfl
theorem ml_L_101 : Cond.methodLink RL 101 yX12_guests ∈ gtb := gtb_in (tb_8 (List.mem_of_getElem? (i := 88) (by decide +kernel))) rfl
theorem ml_X12_511 : Cond.methodLink RX12 511 yX12_callAll ∈ gtb := gtb_in (tb_8 (List.mem_of_getElem? (i := 92) (by decide +kernel))) rfl
theorem ml_X12_514 : Cond.methodLink RX12 514 yX12_isRest ∈ gtb := gtb_in (tb_8 (List.mem_of_getElem? (i := 96) (by decide +kernel))) rfl
theorem ml_X12_507 : Cond.methodLink RX12 507 yX12_goodOf ∈ gtb := gtb_in (tb_8 (List.mem_of_getElem? (i := 100) (by decide +kernel))) rfl
theorem ml_L_105 : Cond.methodLink RL 105 yX12_cover ∈ gtb := gtb_in (tb_8 (List.mem_of_getElem? (i := 104) (by decide +kernel))) rfl
theorem ml_X12_518 : Cond.methodLink RX12 518 yX12_layCould ∈ gtb := gtb_in (tb_8 (List.mem_of_getElem? (i := 108) (by decide +kernel))) rfl
theorem ml_L_109 : Cond.methodLink RL 109 yX12_pilgrim ∈ gtb := gtb_in (tb_8 (List.mem_of_getElem? (i := 112) (by decide +kernel))) rfl
theorem ml_L_113 : Cond.methodLink RL 113 yX12_will ∈ gtb := gtb_in (tb_8 (List.mem_of_getElem? (i := 116) (by decide +kernel))) rfl
theorem ml_L_117 : Cond.methodLink RL 117 yX12_strength ∈ gtb := gtb_in (tb_8 (List.mem_of_getElem? (i := 120) (by decide +kernel))) rfl
theorem ml_L_121 : Cond.methodLink RL 121 yX12_saved ∈ gtb := gtb_in (tb_8 (List.mem_of_getElem? (i := 124) (by decide +kernel))) rfl
theorem ml_X12_521 : Cond.methodLink RX12 521 yX12_savedOnes ∈ gtb := gtb_in (tb_8 (List.mem_of_getElem? (i := 128) (by decide +kernel))) rfl
theorem ml_L_125 : Cond.methodLink RL 125 yX12_grace ∈ gtb := gtb_in (tb_8 (List.mem_of_getElem? (i := 132) (by decide +kernel))) rfl
theorem ml_L_129 : Cond.methodLink RL 129 yX12_easiest ∈ gtb := gtb_in (tb_8 (List.mem_of_getElem? (i := 136) (by decide +kernel))) rfl
theorem ml_L_133 : Cond.methodLink RL 133 yX12_forlorn ∈ gtb := gtb_in (tb_8 (List.mem_of_getElem? (i := 140) (by decide +kernel))) rfl
theorem ml_L_137 : Cond.methodLink RL 137 yX12_nearest ∈ gtb := gtb_in (tb_8 (List.mem_of_getElem? (i := 144) (by decide +kernel))) rfl
theorem ml_L_141 : Cond.methodLink RL 141 yX12_law ∈ gtb := gtb_in (tb_8 (List.mem_of_getElem? (i := 148) (by decide +kernel))) rfl
theorem ml_L_145 : Cond.methodLink RL 145 yX12_schisms ∈ gtb := gtb_in (tb_8 (List.mem_of_getElem? (i := 152) (by decide +kernel))) rfl
theorem ml_L_149 : Cond.methodLink RL 149 yX12_odds ∈ gtb := gtb_in (tb_8 (List.mem_of_getElem? (i := 156) (by decide +kernel))) rfl
theorem ml_X12_524 : Cond.methodLink RX12 524 yX12_divisor ∈ gtb := gtb_in (tb_8 (List.mem_of_getElem? (i := 160) (by decide +kernel))) rfl
theorem ml_L_153 : Cond.methodLink RL 153 yX12_lies ∈ gtb := gtb_in (tb_8 (List.mem_of_getElem? (i := 163) (by decide +kernel))) rfl
theorem ml_L_158 : Cond.methodLink RL 158 yX12_dented ∈ gtb := gtb_in (tb_8 (List.mem_of_getElem? (i := 167) (by decide +kernel))) rfl
theorem ml_X12_530 : Cond.methodLink RX12 530 yX12_mark ∈ gtb := gtb_in (tb_8 (List.mem_of_getElem? (i := 171) (by decide +kernel))) rfl
theorem ml_L_162 : Cond.methodLink RL 162 yX12_held ∈ gtb := gtb_in (tb_8 (List.mem_of_getElem? (i := 175) (by decide +kernel))) rfl
theorem ml_L_167 : Cond.methodLink RL 167 yX12_untell ∈ gtb := gtb_in (tb_8 (List.mem_of_getElem? (i := 179) (by decide +kernel))) rfl
theorem ml_L_171 : Cond.methodLink RL 171 yX12_later ∈ gtb := gtb_in (tb_8 (List.mem_of_getElem? (i := 183) (by decide +kernel))) rfl
theorem ml_L_175 : Cond.methodLink RL 175 yX12_rows ∈ gtb := gtb_in (tb_8 (List.mem_of_getElem? (i := 188) (by decide +kernel))) rfl
theorem ml_X12_538 : Cond.methodLink RX12 538 yX12_layRows ∈ gtb := gtb_in (tb_8 (List.mem_of_getElem? (i := 192) (by decide +kernel))) rfl
theorem ml_X12_535 : Cond.methodLink RX12 535 yX12_isSo ∈ gtb := gtb_in (tb_8 (List.mem_of_getElem? (i := 196) (by decide +kernel))) rfl
theorem ml_L_179 : Cond.methodLink RL 179 yX12_sure ∈ gtb := gtb_in (tb_8 (List.mem_of_getElem? (i := 200) (by decide +kernel))) rfl
theorem ml_L_183 : Cond.methodLink RL 183 yX12_ask ∈ gtb := gtb_in (tb_8 (List.mem_of_getElem? (i := 204) (by decide +kernel))) rfl
theorem ml_X12_541 : Cond.methodLink RX12 541 yX12_leftBy ∈ gtb := gtb_in (tb_8 (List.mem_of_getElem? (i := 208) (by decide +kernel))) rfl
theorem ml_L_187 : Cond.methodLink RL 187 yX12_image ∈ gtb := gtb_in (tb_8 (List.mem_of_getElem? (i := 212) (by decide +kernel))) rfl
theorem ml_X12_544 : Cond.methodLink RX12 544 yX12_isBox ∈ gtb := gtb_in (tb_8 (List.mem_of_getElem? (i := 216) (by decide +kernel))) rfl
theorem ml_L_191 : Cond.methodLink RL 191 yX12_back ∈ gtb := gtb_in (tb_8 (List.mem_of_getElem? (i := 219) (by decide +kernel))) rfl
theorem ml_L_195 : Cond.methodLink RL 195 yX12_about ∈ gtb := gtb_in (tb_8 (List.mem_of_getElem? (i := 223) (by decide +kernel))) rfl
theorem cn_X5_57 : Cond.constantLong RX5 57 (32 : Int64) ∈ gtb := gtb_in (tb_1 (List.mem_of_getElem? (i := 115) (by decide +kernel))) rfl
theorem cn_J2_227 : Cond.constant RJ2 227 (65536 : Int32) ∈ gtb := gtb_in (tb_3 (List.mem_of_getElem? (i := 131) (by decide +kernel))) rfl
theorem cn_J11_110 : Cond.constant RJ11 110 (55232 : Int32) ∈ gtb := gtb_in (tb_3 (List.mem_of_getElem? (i := 156) (by decide +kernel))) rfl
theorem cn_J11_76 : Cond.constant RJ11 76 (56320 : Int32) ∈ gtb := gtb_in (tb_3 (List.mem_of_getElem? (i := 160) (by decide +kernel))) rfl
theorem cn_J6_265 : Cond.constant RJ6 265 (1431655765 : Int32) ∈ gtb := gtb_in (tb_4 (List.mem_of_getElem? (i := 49) (by decide +kernel))) rfl
theorem cn_J6_266 : Cond.constant RJ6 266 (858993459 : Int32) ∈ gtb := gtb_in (tb_4 (List.mem_of_getElem? (i := 50) (by decide +kernel))) rfl
theorem cn_J6_267 : Cond.constant RJ6 267 (252645135 : Int32) ∈ gtb := gtb_in (tb_4 (List.mem_of_getElem? (i := 51) (by decide +kernel))) rfl
theorem cn_X8_45 : Cond.constant RX8 45 (1000000000 : Int32) ∈ gtb := gtb_in (tb_4 (List.mem_of_getElem? (i := 208) (by decide +kernel))) rfl
theorem cn_X8_95 : Cond.constant RX8 95 (8403500 : Int32) ∈ gtb := gtb_in (tb_4 (List.mem_of_getElem? (i := 222) (by decide +kernel))) rfl
theorem cn_X6_64 : Cond.constant RX6 64 (100000 : Int32) ∈ gtb := gtb_in (tb_5 (List.mem_of_getElem? (i := 163) (by decide +kernel))) rfl
theorem cn_X12_209 : Cond.constantLong RX12 209 (114784635876456 : Int64) ∈ gtb := gtb_in (tb_7 (List.mem_of_getElem? (i := 20) (by decide +kernel))) rfl
theorem cn_X12_211 : Cond.constantLong RX12 211 (24948 : Int64) ∈ gtb := gtb_in (tb_7 (List.mem_of_getElem? (i := 41) (by decide +kernel))) rfl
theorem cn_X12_213 : Cond.constantLong RX12 213 (448377484921 : Int64) ∈ gtb := gtb_in (tb_7 (List.mem_of_getElem? (i := 42) (by decide +kernel))) rfl
theorem cn_X12_215 : Cond.constantLong RX12 215 (1919905645 : Int64) ∈ gtb := gtb_in (tb_7 (List.mem_of_getElem? (i := 43) (by decide +kernel))) rfl
theorem cn_X12_217 : Cond.constantLong RX12 217 (2002874989 : Int64) ∈ gtb := gtb_in (tb_7 (List.mem_of_getElem? (i := 44) (by decide +kernel))) rfl
theorem cn_X12_219 : Cond.constantLong RX12 219 (495874699116 : Int64) ∈ gtb := gtb_in (tb_7 (List.mem_of_getElem? (i := 45) (by decide +kernel))) rfl
theorem cn_X12_221 : Cond.constantLong RX12 221 (126943973305959 : Int64) ∈ gtb := gtb_in (tb_7 (List.mem_of_getElem? (i := 46) (by decide +kernel))) rfl
theorem cn_X12_223 : Cond.constantLong RX12 223 (427121010020 : Int64) ∈ gtb := gtb_in (tb_7 (List.mem_of_getElem? (i := 47) (by decide +kernel))) rfl
theorem cn_X12_225 : Cond.constantLong RX12 225 (1684369012 : Int64) ∈ gtb := gtb_in (tb_7 (List.mem_of_getElem? (i := 48) (by decide +kernel))) rfl
theorem cn_X12_227 : Cond.constantLong RX12 227 (422607680115 : Int64) ∈ gtb := gtb_in (tb_7 (List.mem_of_getElem? (i := 49) (by decide +kernel))) rfl
theorem cn_X12_229 : Cond.constantLong RX12 229 (512801993331 : Int64) ∈ gtb := gtb_in (tb_7 (List.mem_of_getElem? (i := 50) (by decide +kernel))) rfl
theorem cn_X12_231 : Cond.constantLong RX12 231 (495556388211 : Int64) ∈ gtb := gtb_in (tb_7 (List.mem_of_getElem? (i := 51) (by decide +kernel))) rfl
theorem cn_X12_233 : Cond.constantLong RX12 233 (1668246628 : Int64) ∈ gtb := gtb_in (tb_7 (List.mem_of_getElem? (i := 52) (by decide +kernel))) rfl
theorem cn_X12_235 : Cond.constantLong RX12 235 (1685217655 : Int64) ∈ gtb := gtb_in (tb_7 (List.mem_of_getElem? (i := 53) (by decide +kernel))) rfl
theorem cn_X12_237 : Cond.constantLong RX12 237 (1835101817 : Int64) ∈ gtb := gtb_in (tb_7 (List.mem_of_getElem? (i := 54) (by decide +kernel))) rfl
theorem cn_X12_239 : Cond.constantLong RX12 239 (6578553 : Int64) ∈ gtb := gtb_in (tb_7 (List.mem_of_getElem? (i := 55) (by decide +kernel))) rfl
theorem cn_X12_241 : Cond.constantLong RX12 241 (6385252 : Int64) ∈ gtb := gtb_in (tb_7 (List.mem_of_getElem? (i := 56) (by decide +kernel))) rfl
theorem cn_X12_243 : Cond.constantLong RX12 243 (28530 : Int64) ∈ gtb := gtb_in (tb_7 (List.mem_of_getElem? (i := 57) (by decide +kernel))) rfl
theorem cn_X12_245 : Cond.constantLong RX12 245 (7237492 : Int64) ∈ gtb := gtb_in (tb_7 (List.mem_of_getElem? (i := 58) (by decide +kernel))) rfl
theorem cn_X12_496 : Cond.constant RX12 496 (1000000 : Int32) ∈ gtb := gtb_in (tb_8 (List.mem_of_getElem? (i := 59) (by decide +kernel))) rfl
theorem cn_X12_534 : Cond.constant RX12 534 (100000 : Int32) ∈ gtb := gtb_in (tb_8 (List.mem_of_getElem? (i := 187) (by decide +kernel))) rfl
theorem cl_L_7 : Cond.classLink RL 7 RX11 ∈ gtb := gtb_in (tb_1 (List.mem_of_getElem? (i := 23) (by decide +kernel))) rfl
theorem cl_X11_7 : Cond.classLink RX11 7 RX7 ∈ gtb := gtb_in (tb_1 (List.mem_of_getElem? (i := 31) (by decide +kernel))) rfl
theorem cl_X7_7 : Cond.classLink RX7 7 RX2 ∈ gtb := gtb_in (tb_1 (List.mem_of_getElem? (i := 37) (by decide +kernel))) rfl
theorem cl_X2_7 : Cond.classLink RX2 7 RX5 ∈ gtb := gtb_in (tb_1 (List.mem_of_getElem? (i := 43) (by decide +kernel))) rfl
theorem cl_X5_9 : Cond.classLink RX5 9 RX10 ∈ gtb := gtb_in (tb_1 (List.mem_of_getElem? (i := 49) (by decide +kernel))) rfl
theorem cl_X11_27 : Cond.classLink RX11 27 RX0 ∈ gtb := gtb_in (tb_1 (List.mem_of_getElem? (i := 178) (by decide +kernel))) rfl
theorem cl_X0_36 : Cond.classLink RX0 36 RX1 ∈ gtb := gtb_in (tb_1 (List.mem_of_getElem? (i := 184) (by decide +kernel))) rfl
theorem cl_X11_37 : Cond.classLink RX11 37 RX9 ∈ gtb := gtb_in (tb_2 (List.mem_of_getElem? (i := 58) (by decide +kernel))) rfl
theorem cl_X11_47 : Cond.classLink RX11 47 RX4 ∈ gtb := gtb_in (tb_2 (List.mem_of_getElem? (i := 95) (by decide +kernel))) rfl
theorem cl_X11_62 : Cond.classLink RX11 62 RX8 ∈ gtb := gtb_in (tb_2 (List.mem_of_getElem? (i := 113) (by decide +kernel))) rfl
theorem cl_X11_69 : Cond.classLink RX11 69 RX3 ∈ gtb := gtb_in (tb_2 (List.mem_of_getElem? (i := 145) (by decide +kernel))) rfl
theorem cl_X3_11 : Cond.classLink RX3 11 "[[I" ∈ gtb := gtb_in (tb_2 (List.mem_of_getElem? (i := 151) (by decide +kernel))) rfl
theorem cl_X11_76 : Cond.classLink RX11 76 RX6 ∈ gtb := gtb_in (tb_2 (List.mem_of_getElem? (i := 168) (by decide +kernel))) rfl
theorem cl_X6_52 : Cond.classLink RX6 52 "[[I" ∈ gtb := gtb_in (tb_2 (List.mem_of_getElem? (i := 174) (by decide +kernel))) rfl
theorem cl_X6_57 : Cond.classLink RX6 57 RX9 ∈ gtb := gtb_in (tb_2 (List.mem_of_getElem? (i := 175) (by decide +kernel))) rfl
theorem cl_L_10 : Cond.classLink RL 10 RX12 ∈ gtb := gtb_in (tb_5 (List.mem_of_getElem? (i := 206) (by decide +kernel))) rfl
theorem ok_X11_init : OkI mX11_init 0 := ⟨⟨gtb_in (tb_1 (List.mem_of_getElem? (i := 27) (by rfl))) rfl, gtb_in (tb_1 (List.mem_of_getElem? (i := 1) (by decide +kernel))) rfl, by decide +kernel, by decide⟩, rfl, gtb_in (tb_1 (List.mem_of_getElem? (i := 26) (by decide +kernel))) rfl⟩
theorem ok_X7_init : OkI mX7_init 0 := ⟨⟨gtb_in (tb_1 (List.mem_of_getElem? (i := 35) (by rfl))) rfl, gtb_in (tb_1 (List.mem_of_getElem? (i := 2) (by decide +kernel))) rfl, by decide +kernel, by decide⟩, rfl, gtb_in (tb_1 (List.mem_of_getElem? (i := 34) (by decide +kernel))) rfl⟩
theorem ok_X2_init : OkI mX2_init 0 := ⟨⟨gtb_in (tb_1 (List.mem_of_getElem? (i := 41) (by rfl))) rfl, gtb_in (tb_1 (List.mem_of_getElem? (i := 3) (by decide +kernel))) rfl, by decide +kernel, by decide⟩, rfl, gtb_in (tb_1 (List.mem_of_getElem? (i := 40) (by decide +kernel))) rfl⟩
theorem ok_X5_init : OkI mX5_init 0 := ⟨⟨gtb_in (tb_1 (List.mem_of_getElem? (i := 47) (by rfl))) rfl, gtb_in (tb_1 (List.mem_of_getElem? (i := 4) (by decide +kernel))) rfl, by decide +kernel, by decide⟩, rfl, gtb_in (tb_1 (List.mem_of_getElem? (i := 46) (by decide +kernel))) rfl⟩
theorem ok_X10_init : OkI mX10_init 0 := ⟨⟨gtb_in (tb_1 (List.mem_of_getElem? (i := 53) (by rfl))) rfl, gtb_in (tb_1 (List.mem_of_getElem? (i := 5) (by decide +kernel))) rfl, by decide +kernel, by decide⟩, rfl, gtb_in (tb_1 (List.mem_of_getElem? (i := 52) (by decide +kernel))) rfl⟩
theorem ok_J1_charAt_3b067 : OkS mJ1_charAt_3b067 2 := ⟨⟨gtb_in (tb_1 (List.mem_of_getElem? (i := 87) (by rfl))) rfl, gtb_in (tb_1 (List.mem_of_getElem? (i := 7) (by decide +kernel))) rfl, by decide +kernel, by decide⟩, gtb_in (tb_1 (List.mem_of_getElem? (i := 86) (by decide +kernel))) rfl⟩
theorem ok_J0_checkIndex_df160 : OkS mJ0_checkIndex_df160 2 := ⟨⟨gtb_in (tb_1 (List.mem_of_getElem? (i := 90) (by rfl))) rfl, gtb_in (tb_1 (List.mem_of_getElem? (i := 6) (by decide +kernel))) rfl, by decide +kernel, by decide⟩, gtb_in (tb_1 (List.mem_of_getElem? (i := 89) (by decide +kernel))) rfl⟩
theorem ok_J3_checkIndex_8e157 : OkS mJ3_checkIndex_8e157 3 := ⟨⟨gtb_in (tb_1 (List.mem_of_getElem? (i := 95) (by rfl))) rfl, gtb_in (tb_1 (List.mem_of_getElem? (i := 8) (by decide +kernel))) rfl, by decide +kernel, by decide⟩, gtb_in (tb_1 (List.mem_of_getElem? (i := 94) (by decide +kernel))) rfl⟩
theorem ok_J2_charAt_3b067 : OkS mJ2_charAt_3b067 2 := ⟨⟨gtb_in (tb_1 (List.mem_of_getElem? (i := 98) (by rfl))) rfl, gtb_in (tb_1 (List.mem_of_getElem? (i := 9) (by decide +kernel))) rfl, by decide +kernel, by decide⟩, gtb_in (tb_1 (List.mem_of_getElem? (i := 97) (by decide +kernel))) rfl⟩
theorem ok_J2_checkIndex_2214a : OkS mJ2_checkIndex_2214a 2 := ⟨⟨gtb_in (tb_1 (List.mem_of_getElem? (i := 101) (by rfl))) rfl, gtb_in (tb_1 (List.mem_of_getElem? (i := 9) (by decide +kernel))) rfl, by decide +kernel, by decide⟩, gtb_in (tb_1 (List.mem_of_getElem? (i := 100) (by decide +kernel))) rfl⟩
theorem ok_J2_length_9d52b : OkS mJ2_length_9d52b 1 := ⟨⟨gtb_in (tb_1 (List.mem_of_getElem? (i := 104) (by rfl))) rfl, gtb_in (tb_1 (List.mem_of_getElem? (i := 9) (by decide +kernel))) rfl, by decide +kernel, by decide⟩, gtb_in (tb_1 (List.mem_of_getElem? (i := 103) (by decide +kernel))) rfl⟩
theorem ok_J2_getChar_3b067 : OkS mJ2_getChar_3b067 2 := ⟨⟨gtb_in (tb_1 (List.mem_of_getElem? (i := 108) (by rfl))) rfl, gtb_in (tb_1 (List.mem_of_getElem? (i := 9) (by decide +kernel))) rfl, by decide +kernel, by decide⟩, gtb_in (tb_1 (List.mem_of_getElem? (i := 107) (by decide +kernel))) rfl⟩
theorem ok_X0_init : OkI mX0_init 0 := ⟨⟨gtb_in (tb_1 (List.mem_of_getElem? (i := 182) (by rfl))) rfl, gtb_in (tb_1 (List.mem_of_getElem? (i := 10) (by decide +kernel))) rfl, by decide +kernel, by decide⟩, rfl, gtb_in (tb_1 (List.mem_of_getElem? (i := 181) (by decide +kernel))) rfl⟩
theorem ok_X1_init : OkI mX1_init 0 := ⟨⟨gtb_in (tb_1 (List.mem_of_getElem? (i := 188) (by rfl))) rfl, gtb_in (tb_1 (List.mem_of_getElem? (i := 11) (by decide +kernel))) rfl, by decide +kernel, by decide⟩, rfl, gtb_in (tb_1 (List.mem_of_getElem? (i := 187) (by decide +kernel))) rfl⟩
theorem ok_X9_init : OkI mX9_init 0 := ⟨⟨gtb_in (tb_2 (List.mem_of_getElem? (i := 62) (by rfl))) rfl, gtb_in (tb_1 (List.mem_of_getElem? (i := 12) (by decide +kernel))) rfl, by decide +kernel, by decide⟩, rfl, gtb_in (tb_2 (List.mem_of_getElem? (i := 61) (by decide +kernel))) rfl⟩
theorem ok_X4_init : OkI mX4_init 0 := ⟨⟨gtb_in (tb_2 (List.mem_of_getElem? (i := 99) (by rfl))) rfl, gtb_in (tb_1 (List.mem_of_getElem? (i := 13) (by decide +kernel))) rfl, by decide +kernel, by decide⟩, rfl, gtb_in (tb_2 (List.mem_of_getElem? (i := 98) (by decide +kernel))) rfl⟩
theorem ok_X8_init : OkI mX8_init 0 := ⟨⟨gtb_in (tb_2 (List.mem_of_getElem? (i := 117) (by rfl))) rfl, gtb_in (tb_1 (List.mem_of_getElem? (i := 14) (by decide +kernel))) rfl, by decide +kernel, by decide⟩, rfl, gtb_in (tb_2 (List.mem_of_getElem? (i := 116) (by decide +kernel))) rfl⟩
theorem ok_X3_init : OkI mX3_init 0 := ⟨⟨gtb_in (tb_2 (List.mem_of_getElem? (i := 149) (by rfl))) rfl, gtb_in (tb_1 (List.mem_of_getElem? (i := 15) (by decide +kernel))) rfl, by decide +kernel, by decide⟩, rfl, gtb_in (tb_2 (List.mem_of_getElem? (i := 148) (by decide +kernel))) rfl⟩
theorem ok_X6_init : OkI mX6_init 0 := ⟨⟨gtb_in (tb_2 (List.mem_of_getElem? (i := 172) (by rfl))) rfl, gtb_in (tb_1 (List.mem_of_getElem? (i := 16) (by decide +kernel))) rfl, by decide +kernel, by decide⟩, rfl, gtb_in (tb_2 (List.mem_of_getElem? (i := 171) (by decide +kernel))) rfl⟩
theorem ok_X9_begin : OkV mX9_begin 1 9 := ⟨⟨gtb_in (tb_2 (List.mem_of_getElem? (i := 226) (by rfl))) rfl, gtb_in (tb_1 (List.mem_of_getElem? (i := 12) (by decide +kernel))) rfl, by decide +kernel, by decide⟩, gtb_in (tb_2 (List.mem_of_getElem? (i := 224) (by decide +kernel))) rfl, gtb_in (tb_2 (List.mem_of_getElem? (i := 225) (by decide +kernel))) rfl, _, _, rfl⟩
theorem ok_J7_fill_53178 : OkS mJ7_fill_53178 2 := ⟨⟨gtb_in (tb_2 (List.mem_of_getElem? (i := 232) (by rfl))) rfl, gtb_in (tb_1 (List.mem_of_getElem? (i := 18) (by decide +kernel))) rfl, by decide +kernel, by decide⟩, gtb_in (tb_2 (List.mem_of_getElem? (i := 231) (by decide +kernel))) rfl⟩
theorem ok_X4_begin : OkV mX4_begin 1 4 := ⟨⟨gtb_in (tb_2 (List.mem_of_getElem? (i := 236) (by rfl))) rfl, gtb_in (tb_1 (List.mem_of_getElem? (i := 13) (by decide +kernel))) rfl, by decide +kernel, by decide⟩, gtb_in (tb_2 (List.mem_of_getElem? (i := 234) (by decide +kernel))) rfl, gtb_in (tb_2 (List.mem_of_getElem? (i := 235) (by decide +kernel))) rfl, _, _, rfl⟩
theorem ok_X9_keepIn : OkV mX9_keepIn 2 9 := ⟨⟨gtb_in (tb_3 (List.mem_of_getElem? (i := 0) (by rfl))) rfl, gtb_in (tb_1 (List.mem_of_getElem? (i := 12) (by decide +kernel))) rfl, by decide +kernel, by decide⟩, gtb_in (tb_2 (List.mem_of_getElem? (i := 238) (by decide +kernel))) rfl, gtb_in (tb_2 (List.mem_of_getElem? (i := 239) (by decide +kernel))) rfl, _, _, rfl⟩
theorem ok_X11_feed : OkV mX11_feed 5 11 := ⟨⟨gtb_in (tb_3 (List.mem_of_getElem? (i := 56) (by rfl))) rfl, gtb_in (tb_1 (List.mem_of_getElem? (i := 1) (by decide +kernel))) rfl, by decide +kernel, by decide⟩, gtb_in (tb_3 (List.mem_of_getElem? (i := 54) (by decide +kernel))) rfl, gtb_in (tb_3 (List.mem_of_getElem? (i := 55) (by decide +kernel))) rfl, _, _, rfl⟩
theorem ok_X10_hasRoomFor : OkV mX10_hasRoomFor 1 10 := ⟨⟨gtb_in (tb_3 (List.mem_of_getElem? (i := 60) (by rfl))) rfl, gtb_in (tb_1 (List.mem_of_getElem? (i := 5) (by decide +kernel))) rfl, by decide +kernel, by decide⟩, gtb_in (tb_3 (List.mem_of_getElem? (i := 58) (by decide +kernel))) rfl, gtb_in (tb_3 (List.mem_of_getElem? (i := 59) (by decide +kernel))) rfl, _, _, rfl⟩
theorem ok_X10_put : OkV mX10_put 1 10 := ⟨⟨gtb_in (tb_3 (List.mem_of_getElem? (i := 64) (by rfl))) rfl, gtb_in (tb_1 (List.mem_of_getElem? (i := 5) (by decide +kernel))) rfl, by decide +kernel, by decide⟩, gtb_in (tb_3 (List.mem_of_getElem? (i := 62) (by decide +kernel))) rfl, gtb_in (tb_3 (List.mem_of_getElem? (i := 63) (by decide +kernel))) rfl, _, _, rfl⟩
theorem ok_X11_end : OkV mX11_end 1 11 := ⟨⟨gtb_in (tb_3 (List.mem_of_getElem? (i := 68) (by rfl))) rfl, gtb_in (tb_1 (List.mem_of_getElem? (i := 1) (by decide +kernel))) rfl, by decide +kernel, by decide⟩, gtb_in (tb_3 (List.mem_of_getElem? (i := 66) (by decide +kernel))) rfl, gtb_in (tb_3 (List.mem_of_getElem? (i := 67) (by decide +kernel))) rfl, _, _, rfl⟩
theorem ok_X11_chapel : OkV mX11_chapel 0 11 := ⟨⟨gtb_in (tb_3 (List.mem_of_getElem? (i := 72) (by rfl))) rfl, gtb_in (tb_1 (List.mem_of_getElem? (i := 1) (by decide +kernel))) rfl, by decide +kernel, by decide⟩, gtb_in (tb_3 (List.mem_of_getElem? (i := 70) (by decide +kernel))) rfl, gtb_in (tb_3 (List.mem_of_getElem? (i := 71) (by decide +kernel))) rfl, _, _, rfl⟩
theorem ok_X7_readInto : OkV mX7_readInto 1 7 := ⟨⟨gtb_in (tb_3 (List.mem_of_getElem? (i := 76) (by rfl))) rfl, gtb_in (tb_1 (List.mem_of_getElem? (i := 2) (by decide +kernel))) rfl, by decide +kernel, by decide⟩, gtb_in (tb_3 (List.mem_of_getElem? (i := 74) (by decide +kernel))) rfl, gtb_in (tb_3 (List.mem_of_getElem? (i := 75) (by decide +kernel))) rfl, _, _, rfl⟩
theorem ok_X0_clear : OkV mX0_clear 0 0 := ⟨⟨gtb_in (tb_3 (List.mem_of_getElem? (i := 80) (by rfl))) rfl, gtb_in (tb_1 (List.mem_of_getElem? (i := 10) (by decide +kernel))) rfl, by decide +kernel, by decide⟩, gtb_in (tb_3 (List.mem_of_getElem? (i := 78) (by decide +kernel))) rfl, gtb_in (tb_3 (List.mem_of_getElem? (i := 79) (by decide +kernel))) rfl, _, _, rfl⟩
theorem ok_X1_clear : OkV mX1_clear 0 1 := ⟨⟨gtb_in (tb_3 (List.mem_of_getElem? (i := 84) (by rfl))) rfl, gtb_in (tb_1 (List.mem_of_getElem? (i := 11) (by decide +kernel))) rfl, by decide +kernel, by decide⟩, gtb_in (tb_3 (List.mem_of_getElem? (i := 82) (by decide +kernel))) rfl, gtb_in (tb_3 (List.mem_of_getElem? (i := 83) (by decide +kernel))) rfl, _, _, rfl⟩
theorem ok_X5_begin : OkV mX5_begin 0 5 := ⟨⟨gtb_in (tb_3 (List.mem_of_getElem? (i := 88) (by rfl))) rfl, gtb_in (tb_1 (List.mem_of_getElem? (i := 4) (by decide +kernel))) rfl, by decide +kernel, by decide⟩, gtb_in (tb_3 (List.mem_of_getElem? (i := 86) (by decide +kernel))) rfl, gtb_in (tb_3 (List.mem_of_getElem? (i := 87) (by decide +kernel))) rfl, _, _, rfl⟩
theorem ok_X5_advance : OkV mX5_advance 0 5 := ⟨⟨gtb_in (tb_3 (List.mem_of_getElem? (i := 92) (by rfl))) rfl, gtb_in (tb_1 (List.mem_of_getElem? (i := 4) (by decide +kernel))) rfl, by decide +kernel, by decide⟩, gtb_in (tb_3 (List.mem_of_getElem? (i := 90) (by decide +kernel))) rfl, gtb_in (tb_3 (List.mem_of_getElem? (i := 91) (by decide +kernel))) rfl, _, _, rfl⟩
theorem ok_X5_takeWord : OkV mX5_takeWord 0 5 := ⟨⟨gtb_in (tb_3 (List.mem_of_getElem? (i := 96) (by rfl))) rfl, gtb_in (tb_1 (List.mem_of_getElem? (i := 4) (by decide +kernel))) rfl, by decide +kernel, by decide⟩, gtb_in (tb_3 (List.mem_of_getElem? (i := 95) (by decide +kernel))) rfl, gtb_in (List.mem_append_left _ (List.mem_of_getElem? (i := 0) (by decide +kernel))) rfl, _, _, rfl⟩
theorem ok_X5_takeNumber : OkV mX5_takeNumber 0 5 := ⟨⟨gtb_in (tb_3 (List.mem_of_getElem? (i := 100) (by rfl))) rfl, gtb_in (tb_1 (List.mem_of_getElem? (i := 4) (by decide +kernel))) rfl, by decide +kernel, by decide⟩, gtb_in (tb_3 (List.mem_of_getElem? (i := 99) (by decide +kernel))) rfl, gtb_in (List.mem_append_left _ (List.mem_of_getElem? (i := 1) (by decide +kernel))) rfl, _, _, rfl⟩
theorem ok_J1_indexOf_4cfef : OkS mJ1_indexOf_4cfef 4 := ⟨⟨gtb_in (tb_3 (List.mem_of_getElem? (i := 113) (by rfl))) rfl, gtb_in (tb_1 (List.mem_of_getElem? (i := 7) (by decide +kernel))) rfl, by decide +kernel, by decide⟩, gtb_in (tb_3 (List.mem_of_getElem? (i := 112) (by decide +kernel))) rfl⟩
theorem ok_J1_canEncode_9a6ad : OkS mJ1_canEncode_9a6ad 1 := ⟨⟨gtb_in (tb_3 (List.mem_of_getElem? (i := 116) (by rfl))) rfl, gtb_in (tb_1 (List.mem_of_getElem? (i := 7) (by decide +kernel))) rfl, by decide +kernel, by decide⟩, gtb_in (tb_3 (List.mem_of_getElem? (i := 115) (by decide +kernel))) rfl⟩
theorem ok_J9_max_7cf53 : OkS mJ9_max_7cf53 2 := ⟨⟨gtb_in (tb_3 (List.mem_of_getElem? (i := 119) (by rfl))) rfl, gtb_in (tb_1 (List.mem_of_getElem? (i := 20) (by decide +kernel))) rfl, by decide +kernel, by decide⟩, gtb_in (tb_3 (List.mem_of_getElem? (i := 118) (by decide +kernel))) rfl⟩
theorem ok_J9_min_7cf53 : OkS mJ9_min_7cf53 2 := ⟨⟨gtb_in (tb_3 (List.mem_of_getElem? (i := 122) (by rfl))) rfl, gtb_in (tb_1 (List.mem_of_getElem? (i := 20) (by decide +kernel))) rfl, by decide +kernel, by decide⟩, gtb_in (tb_3 (List.mem_of_getElem? (i := 121) (by decide +kernel))) rfl⟩
theorem ok_J1_indexOfChar_4cfef : OkS mJ1_indexOfChar_4cfef 4 := ⟨⟨gtb_in (tb_3 (List.mem_of_getElem? (i := 125) (by rfl))) rfl, gtb_in (tb_1 (List.mem_of_getElem? (i := 7) (by decide +kernel))) rfl, by decide +kernel, by decide⟩, gtb_in (tb_3 (List.mem_of_getElem? (i := 124) (by decide +kernel))) rfl⟩
theorem ok_J2_indexOf_4cfef : OkS mJ2_indexOf_4cfef 4 := ⟨⟨gtb_in (tb_3 (List.mem_of_getElem? (i := 128) (by rfl))) rfl, gtb_in (tb_1 (List.mem_of_getElem? (i := 9) (by decide +kernel))) rfl, by decide +kernel, by decide⟩, gtb_in (tb_3 (List.mem_of_getElem? (i := 127) (by decide +kernel))) rfl⟩
theorem ok_J2_indexOfChar_4cfef : OkS mJ2_indexOfChar_4cfef 4 := ⟨⟨gtb_in (tb_3 (List.mem_of_getElem? (i := 134) (by rfl))) rfl, gtb_in (tb_1 (List.mem_of_getElem? (i := 9) (by decide +kernel))) rfl, by decide +kernel, by decide⟩, gtb_in (tb_3 (List.mem_of_getElem? (i := 133) (by decide +kernel))) rfl⟩
theorem ok_J2_checkBoundsBeginEnd_d044e : OkS mJ2_checkBoundsBeginEnd_d044e 3 := ⟨⟨gtb_in (tb_3 (List.mem_of_getElem? (i := 137) (by rfl))) rfl, gtb_in (tb_1 (List.mem_of_getElem? (i := 9) (by decide +kernel))) rfl, by decide +kernel, by decide⟩, gtb_in (tb_3 (List.mem_of_getElem? (i := 136) (by decide +kernel))) rfl⟩
theorem ok_J0_checkBoundsBeginEnd_23922 : OkS mJ0_checkBoundsBeginEnd_23922 3 := ⟨⟨gtb_in (tb_3 (List.mem_of_getElem? (i := 140) (by rfl))) rfl, gtb_in (tb_1 (List.mem_of_getElem? (i := 6) (by decide +kernel))) rfl, by decide +kernel, by decide⟩, gtb_in (tb_3 (List.mem_of_getElem? (i := 139) (by decide +kernel))) rfl⟩
theorem ok_J3_checkFromToIndex_8c36e : OkS mJ3_checkFromToIndex_8c36e 4 := ⟨⟨gtb_in (tb_3 (List.mem_of_getElem? (i := 143) (by rfl))) rfl, gtb_in (tb_1 (List.mem_of_getElem? (i := 8) (by decide +kernel))) rfl, by decide +kernel, by decide⟩, gtb_in (tb_3 (List.mem_of_getElem? (i := 142) (by decide +kernel))) rfl⟩
theorem ok_J2_indexOfCharUnsafe_4cfef : OkS mJ2_indexOfCharUnsafe_4cfef 4 := ⟨⟨gtb_in (tb_3 (List.mem_of_getElem? (i := 146) (by rfl))) rfl, gtb_in (tb_1 (List.mem_of_getElem? (i := 9) (by decide +kernel))) rfl, by decide +kernel, by decide⟩, gtb_in (tb_3 (List.mem_of_getElem? (i := 145) (by decide +kernel))) rfl⟩
theorem ok_J2_indexOfSupplementary_4cfef : OkS mJ2_indexOfSupplementary_4cfef 4 := ⟨⟨gtb_in (tb_3 (List.mem_of_getElem? (i := 149) (by rfl))) rfl, gtb_in (tb_1 (List.mem_of_getElem? (i := 9) (by decide +kernel))) rfl, by decide +kernel, by decide⟩, gtb_in (tb_3 (List.mem_of_getElem? (i := 148) (by decide +kernel))) rfl⟩
theorem ok_J11_isValidCodePoint_9a6ad : OkS mJ11_isValidCodePoint_9a6ad 1 := ⟨⟨gtb_in (tb_3 (List.mem_of_getElem? (i := 152) (by rfl))) rfl, gtb_in (tb_1 (List.mem_of_getElem? (i := 21) (by decide +kernel))) rfl, by decide +kernel, by decide⟩, gtb_in (tb_3 (List.mem_of_getElem? (i := 151) (by decide +kernel))) rfl⟩
theorem ok_J11_highSurrogate_5068e : OkS mJ11_highSurrogate_5068e 1 := ⟨⟨gtb_in (tb_3 (List.mem_of_getElem? (i := 155) (by rfl))) rfl, gtb_in (tb_1 (List.mem_of_getElem? (i := 21) (by decide +kernel))) rfl, by decide +kernel, by decide⟩, gtb_in (tb_3 (List.mem_of_getElem? (i := 154) (by decide +kernel))) rfl⟩
theorem ok_J11_lowSurrogate_5068e : OkS mJ11_lowSurrogate_5068e 1 := ⟨⟨gtb_in (tb_3 (List.mem_of_getElem? (i := 159) (by rfl))) rfl, gtb_in (tb_1 (List.mem_of_getElem? (i := 21) (by decide +kernel))) rfl, by decide +kernel, by decide⟩, gtb_in (tb_3 (List.mem_of_getElem? (i := 158) (by decide +kernel))) rfl⟩
theorem ok_X7_line : OkV mX7_line 1 7 := ⟨⟨gtb_in (tb_3 (List.mem_of_getElem? (i := 164) (by rfl))) rfl, gtb_in (tb_1 (List.mem_of_getElem? (i := 2) (by decide +kernel))) rfl, by decide +kernel, by decide⟩, gtb_in (tb_3 (List.mem_of_getElem? (i := 163) (by decide +kernel))) rfl, gtb_in (List.mem_append_left _ (List.mem_of_getElem? (i := 2) (by decide +kernel))) rfl, _, _, rfl⟩
theorem ok_X7_hearthLine : OkV mX7_hearthLine 1 7 := ⟨⟨gtb_in (tb_3 (List.mem_of_getElem? (i := 168) (by rfl))) rfl, gtb_in (tb_1 (List.mem_of_getElem? (i := 2) (by decide +kernel))) rfl, by decide +kernel, by decide⟩, gtb_in (tb_3 (List.mem_of_getElem? (i := 167) (by decide +kernel))) rfl, gtb_in (List.mem_append_left _ (List.mem_of_getElem? (i := 3) (by decide +kernel))) rfl, _, _, rfl⟩
theorem ok_X5_refuse : OkV mX5_refuse 1 5 := ⟨⟨gtb_in (tb_3 (List.mem_of_getElem? (i := 172) (by rfl))) rfl, gtb_in (tb_1 (List.mem_of_getElem? (i := 4) (by decide +kernel))) rfl, by decide +kernel, by decide⟩, gtb_in (tb_3 (List.mem_of_getElem? (i := 170) (by decide +kernel))) rfl, gtb_in (tb_3 (List.mem_of_getElem? (i := 171) (by decide +kernel))) rfl, _, _, rfl⟩
theorem ok_X7_newName : OkV mX7_newName 2 7 := ⟨⟨gtb_in (tb_3 (List.mem_of_getElem? (i := 177) (by rfl))) rfl, gtb_in (tb_1 (List.mem_of_getElem? (i := 2) (by decide +kernel))) rfl, by decide +kernel, by decide⟩, gtb_in (tb_3 (List.mem_of_getElem? (i := 176) (by decide +kernel))) rfl, gtb_in (List.mem_append_left _ (List.mem_of_getElem? (i := 4) (by decide +kernel))) rfl, _, _, rfl⟩
theorem ok_X7_told : OkV mX7_told 3 7 := ⟨⟨gtb_in (tb_3 (List.mem_of_getElem? (i := 181) (by rfl))) rfl, gtb_in (tb_1 (List.mem_of_getElem? (i := 2) (by decide +kernel))) rfl, by decide +kernel, by decide⟩, gtb_in (tb_3 (List.mem_of_getElem? (i := 180) (by decide +kernel))) rfl, gtb_in (List.mem_append_left _ (List.mem_of_getElem? (i := 5) (by decide +kernel))) rfl, _, _, rfl⟩
theorem ok_X7_stoolLine : OkV mX7_stoolLine 1 7 := ⟨⟨gtb_in (tb_3 (List.mem_of_getElem? (i := 185) (by rfl))) rfl, gtb_in (tb_1 (List.mem_of_getElem? (i := 2) (by decide +kernel))) rfl, by decide +kernel, by decide⟩, gtb_in (tb_3 (List.mem_of_getElem? (i := 184) (by decide +kernel))) rfl, gtb_in (List.mem_append_left _ (List.mem_of_getElem? (i := 6) (by decide +kernel))) rfl, _, _, rfl⟩
theorem ok_X7_formulaLine : OkV mX7_formulaLine 1 7 := ⟨⟨gtb_in (tb_3 (List.mem_of_getElem? (i := 189) (by rfl))) rfl, gtb_in (tb_1 (List.mem_of_getElem? (i := 2) (by decide +kernel))) rfl, by decide +kernel, by decide⟩, gtb_in (tb_3 (List.mem_of_getElem? (i := 188) (by decide +kernel))) rfl, gtb_in (List.mem_append_left _ (List.mem_of_getElem? (i := 7) (by decide +kernel))) rfl, _, _, rfl⟩
theorem ok_X1_isTold : OkV mX1_isTold 0 1 := ⟨⟨gtb_in (tb_3 (List.mem_of_getElem? (i := 193) (by rfl))) rfl, gtb_in (tb_1 (List.mem_of_getElem? (i := 11) (by decide +kernel))) rfl, by decide +kernel, by decide⟩, gtb_in (tb_3 (List.mem_of_getElem? (i := 191) (by decide +kernel))) rfl, gtb_in (tb_3 (List.mem_of_getElem? (i := 192) (by decide +kernel))) rfl, _, _, rfl⟩
theorem ok_X2_either : OkV mX2_either 2 2 := ⟨⟨gtb_in (tb_3 (List.mem_of_getElem? (i := 197) (by rfl))) rfl, gtb_in (tb_1 (List.mem_of_getElem? (i := 3) (by decide +kernel))) rfl, by decide +kernel, by decide⟩, gtb_in (tb_3 (List.mem_of_getElem? (i := 196) (by decide +kernel))) rfl, gtb_in (List.mem_append_left _ (List.mem_of_getElem? (i := 8) (by decide +kernel))) rfl, _, _, rfl⟩
theorem ok_X2_both : OkV mX2_both 2 2 := ⟨⟨gtb_in (tb_3 (List.mem_of_getElem? (i := 201) (by rfl))) rfl, gtb_in (tb_1 (List.mem_of_getElem? (i := 3) (by decide +kernel))) rfl, by decide +kernel, by decide⟩, gtb_in (tb_3 (List.mem_of_getElem? (i := 200) (by decide +kernel))) rfl, gtb_in (List.mem_append_left _ (List.mem_of_getElem? (i := 9) (by decide +kernel))) rfl, _, _, rfl⟩
theorem ok_X2_one : OkV mX2_one 2 2 := ⟨⟨gtb_in (tb_3 (List.mem_of_getElem? (i := 205) (by rfl))) rfl, gtb_in (tb_1 (List.mem_of_getElem? (i := 3) (by decide +kernel))) rfl, by decide +kernel, by decide⟩, gtb_in (tb_3 (List.mem_of_getElem? (i := 204) (by decide +kernel))) rfl, gtb_in (List.mem_append_left _ (List.mem_of_getElem? (i := 10) (by decide +kernel))) rfl, _, _, rfl⟩
theorem ok_X2_relation : OkV mX2_relation 2 2 := ⟨⟨gtb_in (tb_3 (List.mem_of_getElem? (i := 209) (by rfl))) rfl, gtb_in (tb_1 (List.mem_of_getElem? (i := 3) (by decide +kernel))) rfl, by decide +kernel, by decide⟩, gtb_in (tb_3 (List.mem_of_getElem? (i := 208) (by decide +kernel))) rfl, gtb_in (List.mem_append_left _ (List.mem_of_getElem? (i := 11) (by decide +kernel))) rfl, _, _, rfl⟩
theorem ok_X2_sum : OkV mX2_sum 2 2 := ⟨⟨gtb_in (tb_3 (List.mem_of_getElem? (i := 213) (by rfl))) rfl, gtb_in (tb_1 (List.mem_of_getElem? (i := 3) (by decide +kernel))) rfl, by decide +kernel, by decide⟩, gtb_in (tb_3 (List.mem_of_getElem? (i := 212) (by decide +kernel))) rfl, gtb_in (List.mem_append_left _ (List.mem_of_getElem? (i := 12) (by decide +kernel))) rfl, _, _, rfl⟩
theorem ok_X2_term : OkV mX2_term 2 2 := ⟨⟨gtb_in (tb_3 (List.mem_of_getElem? (i := 217) (by rfl))) rfl, gtb_in (tb_1 (List.mem_of_getElem? (i := 3) (by decide +kernel))) rfl, by decide +kernel, by decide⟩, gtb_in (tb_3 (List.mem_of_getElem? (i := 216) (by decide +kernel))) rfl, gtb_in (List.mem_append_left _ (List.mem_of_getElem? (i := 13) (by decide +kernel))) rfl, _, _, rfl⟩
theorem ok_X2_unit : OkV mX2_unit 2 2 := ⟨⟨gtb_in (tb_3 (List.mem_of_getElem? (i := 221) (by rfl))) rfl, gtb_in (tb_1 (List.mem_of_getElem? (i := 3) (by decide +kernel))) rfl, by decide +kernel, by decide⟩, gtb_in (tb_3 (List.mem_of_getElem? (i := 220) (by decide +kernel))) rfl, gtb_in (List.mem_append_left _ (List.mem_of_getElem? (i := 14) (by decide +kernel))) rfl, _, _, rfl⟩
theorem ok_X1_add : OkV mX1_add 1 1 := ⟨⟨gtb_in (tb_3 (List.mem_of_getElem? (i := 226) (by rfl))) rfl, gtb_in (tb_1 (List.mem_of_getElem? (i := 11) (by decide +kernel))) rfl, by decide +kernel, by decide⟩, gtb_in (tb_3 (List.mem_of_getElem? (i := 224) (by decide +kernel))) rfl, gtb_in (tb_3 (List.mem_of_getElem? (i := 225) (by decide +kernel))) rfl, _, _, rfl⟩
theorem ok_X5_pass : OkV mX5_pass 1 5 := ⟨⟨gtb_in (tb_3 (List.mem_of_getElem? (i := 232) (by rfl))) rfl, gtb_in (tb_1 (List.mem_of_getElem? (i := 4) (by decide +kernel))) rfl, by decide +kernel, by decide⟩, gtb_in (tb_3 (List.mem_of_getElem? (i := 230) (by decide +kernel))) rfl, gtb_in (tb_3 (List.mem_of_getElem? (i := 231) (by decide +kernel))) rfl, _, _, rfl⟩
theorem ok_X2_isTimes : OkS mX2_isTimes 1 := ⟨⟨gtb_in (tb_3 (List.mem_of_getElem? (i := 236) (by rfl))) rfl, gtb_in (tb_1 (List.mem_of_getElem? (i := 3) (by decide +kernel))) rfl, by decide +kernel, by decide⟩, gtb_in (tb_3 (List.mem_of_getElem? (i := 235) (by decide +kernel))) rfl⟩
theorem ok_X7_toldOnce : OkV mX7_toldOnce 2 7 := ⟨⟨gtb_in (tb_4 (List.mem_of_getElem? (i := 0) (by rfl))) rfl, gtb_in (tb_1 (List.mem_of_getElem? (i := 2) (by decide +kernel))) rfl, by decide +kernel, by decide⟩, gtb_in (tb_3 (List.mem_of_getElem? (i := 239) (by decide +kernel))) rfl, gtb_in (List.mem_append_left _ (List.mem_of_getElem? (i := 15) (by decide +kernel))) rfl, _, _, rfl⟩
theorem ok_X6_forget : OkV mX6_forget 0 6 := ⟨⟨gtb_in (tb_4 (List.mem_of_getElem? (i := 5) (by rfl))) rfl, gtb_in (tb_1 (List.mem_of_getElem? (i := 16) (by decide +kernel))) rfl, by decide +kernel, by decide⟩, gtb_in (tb_4 (List.mem_of_getElem? (i := 3) (by decide +kernel))) rfl, gtb_in (tb_4 (List.mem_of_getElem? (i := 4) (by decide +kernel))) rfl, _, _, rfl⟩
theorem ok_X11_fault : OkV mX11_fault 1 11 := ⟨⟨gtb_in (tb_4 (List.mem_of_getElem? (i := 9) (by rfl))) rfl, gtb_in (tb_1 (List.mem_of_getElem? (i := 1) (by decide +kernel))) rfl, by decide +kernel, by decide⟩, gtb_in (tb_4 (List.mem_of_getElem? (i := 7) (by decide +kernel))) rfl, gtb_in (tb_4 (List.mem_of_getElem? (i := 8) (by decide +kernel))) rfl, _, _, rfl⟩
theorem ok_X11_hearth : OkV mX11_hearth 2 11 := ⟨⟨gtb_in (tb_4 (List.mem_of_getElem? (i := 13) (by rfl))) rfl, gtb_in (tb_1 (List.mem_of_getElem? (i := 1) (by decide +kernel))) rfl, by decide +kernel, by decide⟩, gtb_in (tb_4 (List.mem_of_getElem? (i := 11) (by decide +kernel))) rfl, gtb_in (tb_4 (List.mem_of_getElem? (i := 12) (by decide +kernel))) rfl, _, _, rfl⟩
theorem ok_X0_hasHearth : OkV mX0_hasHearth 1 0 := ⟨⟨gtb_in (tb_4 (List.mem_of_getElem? (i := 17) (by rfl))) rfl, gtb_in (tb_1 (List.mem_of_getElem? (i := 10) (by decide +kernel))) rfl, by decide +kernel, by decide⟩, gtb_in (tb_4 (List.mem_of_getElem? (i := 15) (by decide +kernel))) rfl, gtb_in (tb_4 (List.mem_of_getElem? (i := 16) (by decide +kernel))) rfl, _, _, rfl⟩
theorem ok_X9_setAt : OkV mX9_setAt 1 9 := ⟨⟨gtb_in (tb_4 (List.mem_of_getElem? (i := 21) (by rfl))) rfl, gtb_in (tb_1 (List.mem_of_getElem? (i := 12) (by decide +kernel))) rfl, by decide +kernel, by decide⟩, gtb_in (tb_4 (List.mem_of_getElem? (i := 19) (by decide +kernel))) rfl, gtb_in (tb_4 (List.mem_of_getElem? (i := 20) (by decide +kernel))) rfl, _, _, rfl⟩
theorem ok_X0_quarrelIn : OkV mX0_quarrelIn 1 0 := ⟨⟨gtb_in (tb_4 (List.mem_of_getElem? (i := 25) (by rfl))) rfl, gtb_in (tb_1 (List.mem_of_getElem? (i := 10) (by decide +kernel))) rfl, by decide +kernel, by decide⟩, gtb_in (tb_4 (List.mem_of_getElem? (i := 23) (by decide +kernel))) rfl, gtb_in (tb_4 (List.mem_of_getElem? (i := 24) (by decide +kernel))) rfl, _, _, rfl⟩
theorem ok_X11_stool : OkV mX11_stool 2 11 := ⟨⟨gtb_in (tb_4 (List.mem_of_getElem? (i := 29) (by rfl))) rfl, gtb_in (tb_1 (List.mem_of_getElem? (i := 1) (by decide +kernel))) rfl, by decide +kernel, by decide⟩, gtb_in (tb_4 (List.mem_of_getElem? (i := 27) (by decide +kernel))) rfl, gtb_in (tb_4 (List.mem_of_getElem? (i := 28) (by decide +kernel))) rfl, _, _, rfl⟩
theorem ok_X0_hasStool : OkV mX0_hasStool 1 0 := ⟨⟨gtb_in (tb_4 (List.mem_of_getElem? (i := 33) (by rfl))) rfl, gtb_in (tb_1 (List.mem_of_getElem? (i := 10) (by decide +kernel))) rfl, by decide +kernel, by decide⟩, gtb_in (tb_4 (List.mem_of_getElem? (i := 31) (by decide +kernel))) rfl, gtb_in (tb_4 (List.mem_of_getElem? (i := 32) (by decide +kernel))) rfl, _, _, rfl⟩
theorem ok_X9_isSaved : OkV mX9_isSaved 2 9 := ⟨⟨gtb_in (tb_4 (List.mem_of_getElem? (i := 37) (by rfl))) rfl, gtb_in (tb_1 (List.mem_of_getElem? (i := 12) (by decide +kernel))) rfl, by decide +kernel, by decide⟩, gtb_in (tb_4 (List.mem_of_getElem? (i := 35) (by decide +kernel))) rfl, gtb_in (tb_4 (List.mem_of_getElem? (i := 36) (by decide +kernel))) rfl, _, _, rfl⟩
theorem ok_X11_load : OkV mX11_load 1 11 := ⟨⟨gtb_in (tb_4 (List.mem_of_getElem? (i := 41) (by rfl))) rfl, gtb_in (tb_1 (List.mem_of_getElem? (i := 1) (by decide +kernel))) rfl, by decide +kernel, by decide⟩, gtb_in (tb_4 (List.mem_of_getElem? (i := 39) (by decide +kernel))) rfl, gtb_in (tb_4 (List.mem_of_getElem? (i := 40) (by decide +kernel))) rfl, _, _, rfl⟩
theorem ok_X11_isSent : OkV mX11_isSent 1 11 := ⟨⟨gtb_in (tb_4 (List.mem_of_getElem? (i := 45) (by rfl))) rfl, gtb_in (tb_1 (List.mem_of_getElem? (i := 1) (by decide +kernel))) rfl, by decide +kernel, by decide⟩, gtb_in (tb_4 (List.mem_of_getElem? (i := 44) (by decide +kernel))) rfl, gtb_in (List.mem_append_left _ (List.mem_of_getElem? (i := 16) (by decide +kernel))) rfl, _, _, rfl⟩
theorem ok_J6_bitCount_0f7a4 : OkS mJ6_bitCount_0f7a4 1 := ⟨⟨gtb_in (tb_4 (List.mem_of_getElem? (i := 48) (by rfl))) rfl, gtb_in (tb_1 (List.mem_of_getElem? (i := 22) (by decide +kernel))) rfl, by decide +kernel, by decide⟩, gtb_in (tb_4 (List.mem_of_getElem? (i := 47) (by decide +kernel))) rfl⟩
theorem ok_X0_loadOf : OkV mX0_loadOf 5 0 := ⟨⟨gtb_in (tb_4 (List.mem_of_getElem? (i := 55) (by rfl))) rfl, gtb_in (tb_1 (List.mem_of_getElem? (i := 10) (by decide +kernel))) rfl, by decide +kernel, by decide⟩, gtb_in (tb_4 (List.mem_of_getElem? (i := 53) (by decide +kernel))) rfl, gtb_in (tb_4 (List.mem_of_getElem? (i := 54) (by decide +kernel))) rfl, _, _, rfl⟩
theorem ok_X0_setTerms : OkV mX0_setTerms 5 0 := ⟨⟨gtb_in (tb_4 (List.mem_of_getElem? (i := 61) (by rfl))) rfl, gtb_in (tb_1 (List.mem_of_getElem? (i := 10) (by decide +kernel))) rfl, by decide +kernel, by decide⟩, gtb_in (tb_4 (List.mem_of_getElem? (i := 60) (by decide +kernel))) rfl, gtb_in (List.mem_append_left _ (List.mem_of_getElem? (i := 17) (by decide +kernel))) rfl, _, _, rfl⟩
theorem ok_X1_valueBy : OkV mX1_valueBy 1 1 := ⟨⟨gtb_in (tb_4 (List.mem_of_getElem? (i := 67) (by rfl))) rfl, gtb_in (tb_1 (List.mem_of_getElem? (i := 11) (by decide +kernel))) rfl, by decide +kernel, by decide⟩, gtb_in (tb_4 (List.mem_of_getElem? (i := 65) (by decide +kernel))) rfl, gtb_in (tb_4 (List.mem_of_getElem? (i := 66) (by decide +kernel))) rfl, _, _, rfl⟩
theorem ok_X1_joined : OkS mX1_joined 3 := ⟨⟨gtb_in (tb_4 (List.mem_of_getElem? (i := 70) (by rfl))) rfl, gtb_in (tb_1 (List.mem_of_getElem? (i := 11) (by decide +kernel))) rfl, by decide +kernel, by decide⟩, gtb_in (tb_4 (List.mem_of_getElem? (i := 69) (by decide +kernel))) rfl⟩
theorem ok_X11_tonight : OkV mX11_tonight 1 11 := ⟨⟨gtb_in (tb_4 (List.mem_of_getElem? (i := 75) (by rfl))) rfl, gtb_in (tb_1 (List.mem_of_getElem? (i := 1) (by decide +kernel))) rfl, by decide +kernel, by decide⟩, gtb_in (tb_4 (List.mem_of_getElem? (i := 73) (by decide +kernel))) rfl, gtb_in (tb_4 (List.mem_of_getElem? (i := 74) (by decide +kernel))) rfl, _, _, rfl⟩
theorem ok_X9_counting : OkV mX9_counting 2 9 := ⟨⟨gtb_in (tb_4 (List.mem_of_getElem? (i := 79) (by rfl))) rfl, gtb_in (tb_1 (List.mem_of_getElem? (i := 12) (by decide +kernel))) rfl, by decide +kernel, by decide⟩, gtb_in (tb_4 (List.mem_of_getElem? (i := 77) (by decide +kernel))) rfl, gtb_in (tb_4 (List.mem_of_getElem? (i := 78) (by decide +kernel))) rfl, _, _, rfl⟩
theorem ok_X0_bearing : OkV mX0_bearing 5 0 := ⟨⟨gtb_in (tb_4 (List.mem_of_getElem? (i := 86) (by rfl))) rfl, gtb_in (tb_1 (List.mem_of_getElem? (i := 10) (by decide +kernel))) rfl, by decide +kernel, by decide⟩, gtb_in (tb_4 (List.mem_of_getElem? (i := 84) (by decide +kernel))) rfl, gtb_in (tb_4 (List.mem_of_getElem? (i := 85) (by decide +kernel))) rfl, _, _, rfl⟩
theorem ok_X9_breaking : OkV mX9_breaking 1 9 := ⟨⟨gtb_in (tb_4 (List.mem_of_getElem? (i := 91) (by rfl))) rfl, gtb_in (tb_1 (List.mem_of_getElem? (i := 12) (by decide +kernel))) rfl, by decide +kernel, by decide⟩, gtb_in (tb_4 (List.mem_of_getElem? (i := 89) (by decide +kernel))) rfl, gtb_in (tb_4 (List.mem_of_getElem? (i := 90) (by decide +kernel))) rfl, _, _, rfl⟩
theorem ok_X0_allStools : OkV mX0_allStools 0 0 := ⟨⟨gtb_in (tb_4 (List.mem_of_getElem? (i := 95) (by rfl))) rfl, gtb_in (tb_1 (List.mem_of_getElem? (i := 10) (by decide +kernel))) rfl, by decide +kernel, by decide⟩, gtb_in (tb_4 (List.mem_of_getElem? (i := 93) (by decide +kernel))) rfl, gtb_in (tb_4 (List.mem_of_getElem? (i := 94) (by decide +kernel))) rfl, _, _, rfl⟩
theorem ok_X9_quarrelling : OkV mX9_quarrelling 1 9 := ⟨⟨gtb_in (tb_4 (List.mem_of_getElem? (i := 99) (by rfl))) rfl, gtb_in (tb_1 (List.mem_of_getElem? (i := 12) (by decide +kernel))) rfl, by decide +kernel, by decide⟩, gtb_in (tb_4 (List.mem_of_getElem? (i := 97) (by decide +kernel))) rfl, gtb_in (tb_4 (List.mem_of_getElem? (i := 98) (by decide +kernel))) rfl, _, _, rfl⟩
theorem ok_X11_walk : OkV mX11_walk 0 11 := ⟨⟨gtb_in (tb_4 (List.mem_of_getElem? (i := 105) (by rfl))) rfl, gtb_in (tb_1 (List.mem_of_getElem? (i := 1) (by decide +kernel))) rfl, by decide +kernel, by decide⟩, gtb_in (tb_4 (List.mem_of_getElem? (i := 103) (by decide +kernel))) rfl, gtb_in (tb_4 (List.mem_of_getElem? (i := 104) (by decide +kernel))) rfl, _, _, rfl⟩
theorem ok_X0_wayOf : OkV mX0_wayOf 2 0 := ⟨⟨gtb_in (tb_4 (List.mem_of_getElem? (i := 109) (by rfl))) rfl, gtb_in (tb_1 (List.mem_of_getElem? (i := 10) (by decide +kernel))) rfl, by decide +kernel, by decide⟩, gtb_in (tb_4 (List.mem_of_getElem? (i := 107) (by decide +kernel))) rfl, gtb_in (tb_4 (List.mem_of_getElem? (i := 108) (by decide +kernel))) rfl, _, _, rfl⟩
theorem ok_J9_abs_0f7a4 : OkS mJ9_abs_0f7a4 1 := ⟨⟨gtb_in (tb_4 (List.mem_of_getElem? (i := 112) (by rfl))) rfl, gtb_in (tb_1 (List.mem_of_getElem? (i := 20) (by decide +kernel))) rfl, by decide +kernel, by decide⟩, gtb_in (tb_4 (List.mem_of_getElem? (i := 111) (by decide +kernel))) rfl⟩
theorem ok_X11_saved : OkV mX11_saved 0 11 := ⟨⟨gtb_in (tb_4 (List.mem_of_getElem? (i := 116) (by rfl))) rfl, gtb_in (tb_1 (List.mem_of_getElem? (i := 1) (by decide +kernel))) rfl, by decide +kernel, by decide⟩, gtb_in (tb_4 (List.mem_of_getElem? (i := 114) (by decide +kernel))) rfl, gtb_in (tb_4 (List.mem_of_getElem? (i := 115) (by decide +kernel))) rfl, _, _, rfl⟩
theorem ok_X9_savedBits : OkV mX9_savedBits 1 9 := ⟨⟨gtb_in (tb_4 (List.mem_of_getElem? (i := 120) (by rfl))) rfl, gtb_in (tb_1 (List.mem_of_getElem? (i := 12) (by decide +kernel))) rfl, by decide +kernel, by decide⟩, gtb_in (tb_4 (List.mem_of_getElem? (i := 118) (by decide +kernel))) rfl, gtb_in (tb_4 (List.mem_of_getElem? (i := 119) (by decide +kernel))) rfl, _, _, rfl⟩
theorem ok_X11_about : OkV mX11_about 1 11 := ⟨⟨gtb_in (tb_4 (List.mem_of_getElem? (i := 125) (by rfl))) rfl, gtb_in (tb_1 (List.mem_of_getElem? (i := 1) (by decide +kernel))) rfl, by decide +kernel, by decide⟩, gtb_in (tb_4 (List.mem_of_getElem? (i := 123) (by decide +kernel))) rfl, gtb_in (tb_4 (List.mem_of_getElem? (i := 124) (by decide +kernel))) rfl, _, _, rfl⟩
theorem ok_X11_send : OkV mX11_send 2 11 := ⟨⟨gtb_in (tb_4 (List.mem_of_getElem? (i := 129) (by rfl))) rfl, gtb_in (tb_1 (List.mem_of_getElem? (i := 1) (by decide +kernel))) rfl, by decide +kernel, by decide⟩, gtb_in (tb_4 (List.mem_of_getElem? (i := 127) (by decide +kernel))) rfl, gtb_in (tb_4 (List.mem_of_getElem? (i := 128) (by decide +kernel))) rfl, _, _, rfl⟩
theorem ok_X11_hasRoomNow : OkV mX11_hasRoomNow 1 11 := ⟨⟨gtb_in (tb_4 (List.mem_of_getElem? (i := 133) (by rfl))) rfl, gtb_in (tb_1 (List.mem_of_getElem? (i := 1) (by decide +kernel))) rfl, by decide +kernel, by decide⟩, gtb_in (tb_4 (List.mem_of_getElem? (i := 132) (by decide +kernel))) rfl, gtb_in (List.mem_append_left _ (List.mem_of_getElem? (i := 18) (by decide +kernel))) rfl, _, _, rfl⟩
theorem ok_X4_add : OkV mX4_add 1 4 := ⟨⟨gtb_in (tb_4 (List.mem_of_getElem? (i := 137) (by rfl))) rfl, gtb_in (tb_1 (List.mem_of_getElem? (i := 13) (by decide +kernel))) rfl, by decide +kernel, by decide⟩, gtb_in (tb_4 (List.mem_of_getElem? (i := 135) (by decide +kernel))) rfl, gtb_in (tb_4 (List.mem_of_getElem? (i := 136) (by decide +kernel))) rfl, _, _, rfl⟩
theorem ok_X11_call : OkV mX11_call 1 11 := ⟨⟨gtb_in (tb_4 (List.mem_of_getElem? (i := 142) (by rfl))) rfl, gtb_in (tb_1 (List.mem_of_getElem? (i := 1) (by decide +kernel))) rfl, by decide +kernel, by decide⟩, gtb_in (tb_4 (List.mem_of_getElem? (i := 140) (by decide +kernel))) rfl, gtb_in (tb_4 (List.mem_of_getElem? (i := 141) (by decide +kernel))) rfl, _, _, rfl⟩
theorem ok_X11_evening : OkV mX11_evening 0 11 := ⟨⟨gtb_in (tb_4 (List.mem_of_getElem? (i := 146) (by rfl))) rfl, gtb_in (tb_1 (List.mem_of_getElem? (i := 1) (by decide +kernel))) rfl, by decide +kernel, by decide⟩, gtb_in (tb_4 (List.mem_of_getElem? (i := 144) (by decide +kernel))) rfl, gtb_in (tb_4 (List.mem_of_getElem? (i := 145) (by decide +kernel))) rfl, _, _, rfl⟩
theorem ok_X9_drawCold : OkV mX9_drawCold 1 9 := ⟨⟨gtb_in (tb_4 (List.mem_of_getElem? (i := 150) (by rfl))) rfl, gtb_in (tb_1 (List.mem_of_getElem? (i := 12) (by decide +kernel))) rfl, by decide +kernel, by decide⟩, gtb_in (tb_4 (List.mem_of_getElem? (i := 148) (by decide +kernel))) rfl, gtb_in (tb_4 (List.mem_of_getElem? (i := 149) (by decide +kernel))) rfl, _, _, rfl⟩
theorem ok_X9_passEvening : OkV mX9_passEvening 2 9 := ⟨⟨gtb_in (tb_4 (List.mem_of_getElem? (i := 154) (by rfl))) rfl, gtb_in (tb_1 (List.mem_of_getElem? (i := 12) (by decide +kernel))) rfl, by decide +kernel, by decide⟩, gtb_in (tb_4 (List.mem_of_getElem? (i := 152) (by decide +kernel))) rfl, gtb_in (tb_4 (List.mem_of_getElem? (i := 153) (by decide +kernel))) rfl, _, _, rfl⟩
theorem ok_X9_rest : OkV mX9_rest 2 9 := ⟨⟨gtb_in (tb_4 (List.mem_of_getElem? (i := 158) (by rfl))) rfl, gtb_in (tb_1 (List.mem_of_getElem? (i := 12) (by decide +kernel))) rfl, by decide +kernel, by decide⟩, gtb_in (tb_4 (List.mem_of_getElem? (i := 156) (by decide +kernel))) rfl, gtb_in (tb_4 (List.mem_of_getElem? (i := 157) (by decide +kernel))) rfl, _, _, rfl⟩
theorem ok_X9_kneel : OkV mX9_kneel 4 9 := ⟨⟨gtb_in (tb_4 (List.mem_of_getElem? (i := 163) (by rfl))) rfl, gtb_in (tb_1 (List.mem_of_getElem? (i := 12) (by decide +kernel))) rfl, by decide +kernel, by decide⟩, gtb_in (tb_4 (List.mem_of_getElem? (i := 161) (by decide +kernel))) rfl, gtb_in (tb_4 (List.mem_of_getElem? (i := 162) (by decide +kernel))) rfl, _, _, rfl⟩
theorem ok_X0_wearOf : OkV mX0_wearOf 4 0 := ⟨⟨gtb_in (tb_4 (List.mem_of_getElem? (i := 168) (by rfl))) rfl, gtb_in (tb_1 (List.mem_of_getElem? (i := 10) (by decide +kernel))) rfl, by decide +kernel, by decide⟩, gtb_in (tb_4 (List.mem_of_getElem? (i := 166) (by decide +kernel))) rfl, gtb_in (tb_4 (List.mem_of_getElem? (i := 167) (by decide +kernel))) rfl, _, _, rfl⟩
theorem ok_X11_undo : OkV mX11_undo 0 11 := ⟨⟨gtb_in (tb_4 (List.mem_of_getElem? (i := 172) (by rfl))) rfl, gtb_in (tb_1 (List.mem_of_getElem? (i := 1) (by decide +kernel))) rfl, by decide +kernel, by decide⟩, gtb_in (tb_4 (List.mem_of_getElem? (i := 170) (by decide +kernel))) rfl, gtb_in (tb_4 (List.mem_of_getElem? (i := 171) (by decide +kernel))) rfl, _, _, rfl⟩
theorem ok_X4_stepBack : OkV mX4_stepBack 1 4 := ⟨⟨gtb_in (tb_4 (List.mem_of_getElem? (i := 176) (by rfl))) rfl, gtb_in (tb_1 (List.mem_of_getElem? (i := 13) (by decide +kernel))) rfl, by decide +kernel, by decide⟩, gtb_in (tb_4 (List.mem_of_getElem? (i := 174) (by decide +kernel))) rfl, gtb_in (tb_4 (List.mem_of_getElem? (i := 175) (by decide +kernel))) rfl, _, _, rfl⟩
theorem ok_X9_takeFrom : OkV mX9_takeFrom 2 9 := ⟨⟨gtb_in (tb_4 (List.mem_of_getElem? (i := 180) (by rfl))) rfl, gtb_in (tb_1 (List.mem_of_getElem? (i := 12) (by decide +kernel))) rfl, by decide +kernel, by decide⟩, gtb_in (tb_4 (List.mem_of_getElem? (i := 178) (by decide +kernel))) rfl, gtb_in (tb_4 (List.mem_of_getElem? (i := 179) (by decide +kernel))) rfl, _, _, rfl⟩
theorem ok_X11_redo : OkV mX11_redo 0 11 := ⟨⟨gtb_in (tb_4 (List.mem_of_getElem? (i := 184) (by rfl))) rfl, gtb_in (tb_1 (List.mem_of_getElem? (i := 1) (by decide +kernel))) rfl, by decide +kernel, by decide⟩, gtb_in (tb_4 (List.mem_of_getElem? (i := 182) (by decide +kernel))) rfl, gtb_in (tb_4 (List.mem_of_getElem? (i := 183) (by decide +kernel))) rfl, _, _, rfl⟩
theorem ok_X4_stepOn : OkV mX4_stepOn 1 4 := ⟨⟨gtb_in (tb_4 (List.mem_of_getElem? (i := 188) (by rfl))) rfl, gtb_in (tb_1 (List.mem_of_getElem? (i := 13) (by decide +kernel))) rfl, by decide +kernel, by decide⟩, gtb_in (tb_4 (List.mem_of_getElem? (i := 186) (by decide +kernel))) rfl, gtb_in (tb_4 (List.mem_of_getElem? (i := 187) (by decide +kernel))) rfl, _, _, rfl⟩
theorem ok_X11_image : OkV mX11_image 1 11 := ⟨⟨gtb_in (tb_4 (List.mem_of_getElem? (i := 192) (by rfl))) rfl, gtb_in (tb_1 (List.mem_of_getElem? (i := 1) (by decide +kernel))) rfl, by decide +kernel, by decide⟩, gtb_in (tb_4 (List.mem_of_getElem? (i := 190) (by decide +kernel))) rfl, gtb_in (tb_4 (List.mem_of_getElem? (i := 191) (by decide +kernel))) rfl, _, _, rfl⟩
theorem ok_X11_back : OkV mX11_back 1 11 := ⟨⟨gtb_in (tb_4 (List.mem_of_getElem? (i := 197) (by rfl))) rfl, gtb_in (tb_1 (List.mem_of_getElem? (i := 1) (by decide +kernel))) rfl, by decide +kernel, by decide⟩, gtb_in (tb_4 (List.mem_of_getElem? (i := 195) (by decide +kernel))) rfl, gtb_in (tb_4 (List.mem_of_getElem? (i := 196) (by decide +kernel))) rfl, _, _, rfl⟩
theorem ok_X11_round : OkV mX11_round 1 11 := ⟨⟨gtb_in (tb_4 (List.mem_of_getElem? (i := 202) (by rfl))) rfl, gtb_in (tb_1 (List.mem_of_getElem? (i := 1) (by decide +kernel))) rfl, by decide +kernel, by decide⟩, gtb_in (tb_4 (List.mem_of_getElem? (i := 200) (by decide +kernel))) rfl, gtb_in (tb_4 (List.mem_of_getElem? (i := 201) (by decide +kernel))) rfl, _, _, rfl⟩
theorem ok_X8_find : OkV mX8_find 3 8 := ⟨⟨gtb_in (tb_4 (List.mem_of_getElem? (i := 206) (by rfl))) rfl, gtb_in (tb_1 (List.mem_of_getElem? (i := 14) (by decide +kernel))) rfl, by decide +kernel, by decide⟩, gtb_in (tb_4 (List.mem_of_getElem? (i := 204) (by decide +kernel))) rfl, gtb_in (tb_4 (List.mem_of_getElem? (i := 205) (by decide +kernel))) rfl, _, _, rfl⟩
theorem ok_X8_priceSets : OkV mX8_priceSets 5 8 := ⟨⟨gtb_in (tb_4 (List.mem_of_getElem? (i := 213) (by rfl))) rfl, gtb_in (tb_1 (List.mem_of_getElem? (i := 14) (by decide +kernel))) rfl, by decide +kernel, by decide⟩, gtb_in (tb_4 (List.mem_of_getElem? (i := 212) (by decide +kernel))) rfl, gtb_in (List.mem_append_left _ (List.mem_of_getElem? (i := 19) (by decide +kernel))) rfl, _, _, rfl⟩
theorem ok_X8_priceOf : OkV mX8_priceOf 4 8 := ⟨⟨gtb_in (tb_4 (List.mem_of_getElem? (i := 218) (by rfl))) rfl, gtb_in (tb_1 (List.mem_of_getElem? (i := 14) (by decide +kernel))) rfl, by decide +kernel, by decide⟩, gtb_in (tb_4 (List.mem_of_getElem? (i := 217) (by decide +kernel))) rfl, gtb_in (List.mem_append_left _ (List.mem_of_getElem? (i := 20) (by decide +kernel))) rfl, _, _, rfl⟩
theorem ok_X8_orderOf : OkS mX8_orderOf 3 := ⟨⟨gtb_in (tb_4 (List.mem_of_getElem? (i := 225) (by rfl))) rfl, gtb_in (tb_1 (List.mem_of_getElem? (i := 14) (by decide +kernel))) rfl, by decide +kernel, by decide⟩, gtb_in (tb_4 (List.mem_of_getElem? (i := 224) (by decide +kernel))) rfl⟩
theorem ok_X8_goOnWithHearth : OkV mX8_goOnWithHearth 1 8 := ⟨⟨gtb_in (tb_4 (List.mem_of_getElem? (i := 231) (by rfl))) rfl, gtb_in (tb_1 (List.mem_of_getElem? (i := 14) (by decide +kernel))) rfl, by decide +kernel, by decide⟩, gtb_in (tb_4 (List.mem_of_getElem? (i := 230) (by decide +kernel))) rfl, gtb_in (List.mem_append_left _ (List.mem_of_getElem? (i := 21) (by decide +kernel))) rfl, _, _, rfl⟩
theorem ok_X8_unpack : OkV mX8_unpack 2 8 := ⟨⟨gtb_in (tb_4 (List.mem_of_getElem? (i := 236) (by rfl))) rfl, gtb_in (tb_1 (List.mem_of_getElem? (i := 14) (by decide +kernel))) rfl, by decide +kernel, by decide⟩, gtb_in (tb_4 (List.mem_of_getElem? (i := 235) (by decide +kernel))) rfl, gtb_in (List.mem_append_left _ (List.mem_of_getElem? (i := 22) (by decide +kernel))) rfl, _, _, rfl⟩
theorem ok_J9_floorMod_7cf53 : OkS mJ9_floorMod_7cf53 2 := ⟨⟨gtb_in (tb_4 (List.mem_of_getElem? (i := 239) (by rfl))) rfl, gtb_in (tb_1 (List.mem_of_getElem? (i := 20) (by decide +kernel))) rfl, by decide +kernel, by decide⟩, gtb_in (tb_4 (List.mem_of_getElem? (i := 238) (by decide +kernel))) rfl⟩
theorem ok_J9_floorDiv_7cf53 : OkS mJ9_floorDiv_7cf53 2 := ⟨⟨gtb_in (tb_5 (List.mem_of_getElem? (i := 2) (by rfl))) rfl, gtb_in (tb_1 (List.mem_of_getElem? (i := 20) (by decide +kernel))) rfl, by decide +kernel, by decide⟩, gtb_in (tb_5 (List.mem_of_getElem? (i := 1) (by decide +kernel))) rfl⟩
theorem ok_X11_layDownSending : OkV mX11_layDownSending 0 11 := ⟨⟨gtb_in (tb_5 (List.mem_of_getElem? (i := 6) (by rfl))) rfl, gtb_in (tb_1 (List.mem_of_getElem? (i := 1) (by decide +kernel))) rfl, by decide +kernel, by decide⟩, gtb_in (tb_5 (List.mem_of_getElem? (i := 5) (by decide +kernel))) rfl, gtb_in (List.mem_append_left _ (List.mem_of_getElem? (i := 23) (by decide +kernel))) rfl, _, _, rfl⟩
theorem ok_X11_service : OkV mX11_service 0 11 := ⟨⟨gtb_in (tb_5 (List.mem_of_getElem? (i := 11) (by rfl))) rfl, gtb_in (tb_1 (List.mem_of_getElem? (i := 1) (by decide +kernel))) rfl, by decide +kernel, by decide⟩, gtb_in (tb_5 (List.mem_of_getElem? (i := 9) (by decide +kernel))) rfl, gtb_in (tb_5 (List.mem_of_getElem? (i := 10) (by decide +kernel))) rfl, _, _, rfl⟩
theorem ok_X11_team : OkV mX11_team 2 11 := ⟨⟨gtb_in (tb_5 (List.mem_of_getElem? (i := 15) (by rfl))) rfl, gtb_in (tb_1 (List.mem_of_getElem? (i := 1) (by decide +kernel))) rfl, by decide +kernel, by decide⟩, gtb_in (tb_5 (List.mem_of_getElem? (i := 13) (by decide +kernel))) rfl, gtb_in (tb_5 (List.mem_of_getElem? (i := 14) (by decide +kernel))) rfl, _, _, rfl⟩
theorem ok_X11_wouldAllCount : OkV mX11_wouldAllCount 2 11 := ⟨⟨gtb_in (tb_5 (List.mem_of_getElem? (i := 19) (by rfl))) rfl, gtb_in (tb_1 (List.mem_of_getElem? (i := 1) (by decide +kernel))) rfl, by decide +kernel, by decide⟩, gtb_in (tb_5 (List.mem_of_getElem? (i := 18) (by decide +kernel))) rfl, gtb_in (List.mem_append_left _ (List.mem_of_getElem? (i := 24) (by decide +kernel))) rfl, _, _, rfl⟩
theorem ok_X11_change : OkV mX11_change 1 11 := ⟨⟨gtb_in (tb_5 (List.mem_of_getElem? (i := 24) (by rfl))) rfl, gtb_in (tb_1 (List.mem_of_getElem? (i := 1) (by decide +kernel))) rfl, by decide +kernel, by decide⟩, gtb_in (tb_5 (List.mem_of_getElem? (i := 22) (by decide +kernel))) rfl, gtb_in (tb_5 (List.mem_of_getElem? (i := 23) (by decide +kernel))) rfl, _, _, rfl⟩
theorem ok_X11_countingExchanged : OkV mX11_countingExchanged 2 11 := ⟨⟨gtb_in (tb_5 (List.mem_of_getElem? (i := 28) (by rfl))) rfl, gtb_in (tb_1 (List.mem_of_getElem? (i := 1) (by decide +kernel))) rfl, by decide +kernel, by decide⟩, gtb_in (tb_5 (List.mem_of_getElem? (i := 27) (by decide +kernel))) rfl, gtb_in (List.mem_append_left _ (List.mem_of_getElem? (i := 25) (by decide +kernel))) rfl, _, _, rfl⟩
theorem ok_X9_copy : OkV mX9_copy 1 9 := ⟨⟨gtb_in (tb_5 (List.mem_of_getElem? (i := 32) (by rfl))) rfl, gtb_in (tb_1 (List.mem_of_getElem? (i := 12) (by decide +kernel))) rfl, by decide +kernel, by decide⟩, gtb_in (tb_5 (List.mem_of_getElem? (i := 30) (by decide +kernel))) rfl, gtb_in (tb_5 (List.mem_of_getElem? (i := 31) (by decide +kernel))) rfl, _, _, rfl⟩
theorem ok_X11_guests : OkV mX11_guests 2 11 := ⟨⟨gtb_in (tb_5 (List.mem_of_getElem? (i := 36) (by rfl))) rfl, gtb_in (tb_1 (List.mem_of_getElem? (i := 1) (by decide +kernel))) rfl, by decide +kernel, by decide⟩, gtb_in (tb_5 (List.mem_of_getElem? (i := 34) (by decide +kernel))) rfl, gtb_in (tb_5 (List.mem_of_getElem? (i := 35) (by decide +kernel))) rfl, _, _, rfl⟩
theorem ok_X3_findRests : OkV mX3_findRests 4 3 := ⟨⟨gtb_in (tb_5 (List.mem_of_getElem? (i := 40) (by rfl))) rfl, gtb_in (tb_1 (List.mem_of_getElem? (i := 15) (by decide +kernel))) rfl, by decide +kernel, by decide⟩, gtb_in (tb_5 (List.mem_of_getElem? (i := 38) (by decide +kernel))) rfl, gtb_in (tb_5 (List.mem_of_getElem? (i := 39) (by decide +kernel))) rfl, _, _, rfl⟩
theorem ok_X3_weigh : OkV mX3_weigh 5 3 := ⟨⟨gtb_in (tb_5 (List.mem_of_getElem? (i := 44) (by rfl))) rfl, gtb_in (tb_1 (List.mem_of_getElem? (i := 15) (by decide +kernel))) rfl, by decide +kernel, by decide⟩, gtb_in (tb_5 (List.mem_of_getElem? (i := 43) (by decide +kernel))) rfl, gtb_in (List.mem_append_left _ (List.mem_of_getElem? (i := 26) (by decide +kernel))) rfl, _, _, rfl⟩
theorem ok_X3_worth : OkS mX3_worth 4 := ⟨⟨gtb_in (tb_5 (List.mem_of_getElem? (i := 49) (by rfl))) rfl, gtb_in (tb_1 (List.mem_of_getElem? (i := 15) (by decide +kernel))) rfl, by decide +kernel, by decide⟩, gtb_in (tb_5 (List.mem_of_getElem? (i := 48) (by decide +kernel))) rfl⟩
theorem ok_X3_staysAt : OkV mX3_staysAt 4 3 := ⟨⟨gtb_in (tb_5 (List.mem_of_getElem? (i := 54) (by rfl))) rfl, gtb_in (tb_1 (List.mem_of_getElem? (i := 15) (by decide +kernel))) rfl, by decide +kernel, by decide⟩, gtb_in (tb_5 (List.mem_of_getElem? (i := 53) (by decide +kernel))) rfl, gtb_in (List.mem_append_left _ (List.mem_of_getElem? (i := 27) (by decide +kernel))) rfl, _, _, rfl⟩
theorem ok_X3_worthAt : OkV mX3_worthAt 3 3 := ⟨⟨gtb_in (tb_5 (List.mem_of_getElem? (i := 58) (by rfl))) rfl, gtb_in (tb_1 (List.mem_of_getElem? (i := 15) (by decide +kernel))) rfl, by decide +kernel, by decide⟩, gtb_in (tb_5 (List.mem_of_getElem? (i := 57) (by decide +kernel))) rfl, gtb_in (List.mem_append_left _ (List.mem_of_getElem? (i := 28) (by decide +kernel))) rfl, _, _, rfl⟩
theorem ok_X11_lies : OkV mX11_lies 1 11 := ⟨⟨gtb_in (tb_5 (List.mem_of_getElem? (i := 62) (by rfl))) rfl, gtb_in (tb_1 (List.mem_of_getElem? (i := 1) (by decide +kernel))) rfl, by decide +kernel, by decide⟩, gtb_in (tb_5 (List.mem_of_getElem? (i := 60) (by decide +kernel))) rfl, gtb_in (tb_5 (List.mem_of_getElem? (i := 61) (by decide +kernel))) rfl, _, _, rfl⟩
theorem ok_X11_cover : OkV mX11_cover 1 11 := ⟨⟨gtb_in (tb_5 (List.mem_of_getElem? (i := 66) (by rfl))) rfl, gtb_in (tb_1 (List.mem_of_getElem? (i := 1) (by decide +kernel))) rfl, by decide +kernel, by decide⟩, gtb_in (tb_5 (List.mem_of_getElem? (i := 64) (by decide +kernel))) rfl, gtb_in (tb_5 (List.mem_of_getElem? (i := 65) (by decide +kernel))) rfl, _, _, rfl⟩
theorem ok_X11_findWhereEachCould : OkV mX11_findWhereEachCould 0 11 := ⟨⟨gtb_in (tb_5 (List.mem_of_getElem? (i := 70) (by rfl))) rfl, gtb_in (tb_1 (List.mem_of_getElem? (i := 1) (by decide +kernel))) rfl, by decide +kernel, by decide⟩, gtb_in (tb_5 (List.mem_of_getElem? (i := 69) (by decide +kernel))) rfl, gtb_in (List.mem_append_left _ (List.mem_of_getElem? (i := 29) (by decide +kernel))) rfl, _, _, rfl⟩
theorem ok_X11_coversAll : OkV mX11_coversAll 1 11 := ⟨⟨gtb_in (tb_5 (List.mem_of_getElem? (i := 74) (by rfl))) rfl, gtb_in (tb_1 (List.mem_of_getElem? (i := 1) (by decide +kernel))) rfl, by decide +kernel, by decide⟩, gtb_in (tb_5 (List.mem_of_getElem? (i := 73) (by decide +kernel))) rfl, gtb_in (List.mem_append_left _ (List.mem_of_getElem? (i := 30) (by decide +kernel))) rfl, _, _, rfl⟩
theorem ok_X11_easiest : OkV mX11_easiest 1 11 := ⟨⟨gtb_in (tb_5 (List.mem_of_getElem? (i := 78) (by rfl))) rfl, gtb_in (tb_1 (List.mem_of_getElem? (i := 1) (by decide +kernel))) rfl, by decide +kernel, by decide⟩, gtb_in (tb_5 (List.mem_of_getElem? (i := 76) (by decide +kernel))) rfl, gtb_in (tb_5 (List.mem_of_getElem? (i := 77) (by decide +kernel))) rfl, _, _, rfl⟩
theorem ok_X11_forlorn : OkV mX11_forlorn 0 11 := ⟨⟨gtb_in (tb_5 (List.mem_of_getElem? (i := 82) (by rfl))) rfl, gtb_in (tb_1 (List.mem_of_getElem? (i := 1) (by decide +kernel))) rfl, by decide +kernel, by decide⟩, gtb_in (tb_5 (List.mem_of_getElem? (i := 80) (by decide +kernel))) rfl, gtb_in (tb_5 (List.mem_of_getElem? (i := 81) (by decide +kernel))) rfl, _, _, rfl⟩
theorem ok_X11_nearest : OkV mX11_nearest 1 11 := ⟨⟨gtb_in (tb_5 (List.mem_of_getElem? (i := 87) (by rfl))) rfl, gtb_in (tb_1 (List.mem_of_getElem? (i := 1) (by decide +kernel))) rfl, by decide +kernel, by decide⟩, gtb_in (tb_5 (List.mem_of_getElem? (i := 85) (by decide +kernel))) rfl, gtb_in (tb_5 (List.mem_of_getElem? (i := 86) (by decide +kernel))) rfl, _, _, rfl⟩
theorem ok_X11_pilgrim : OkV mX11_pilgrim 1 11 := ⟨⟨gtb_in (tb_5 (List.mem_of_getElem? (i := 91) (by rfl))) rfl, gtb_in (tb_1 (List.mem_of_getElem? (i := 1) (by decide +kernel))) rfl, by decide +kernel, by decide⟩, gtb_in (tb_5 (List.mem_of_getElem? (i := 89) (by decide +kernel))) rfl, gtb_in (tb_5 (List.mem_of_getElem? (i := 90) (by decide +kernel))) rfl, _, _, rfl⟩
theorem ok_X11_law : OkV mX11_law 1 11 := ⟨⟨gtb_in (tb_5 (List.mem_of_getElem? (i := 98) (by rfl))) rfl, gtb_in (tb_1 (List.mem_of_getElem? (i := 1) (by decide +kernel))) rfl, by decide +kernel, by decide⟩, gtb_in (tb_5 (List.mem_of_getElem? (i := 96) (by decide +kernel))) rfl, gtb_in (tb_5 (List.mem_of_getElem? (i := 97) (by decide +kernel))) rfl, _, _, rfl⟩
theorem ok_X11_schisms : OkV mX11_schisms 0 11 := ⟨⟨gtb_in (tb_5 (List.mem_of_getElem? (i := 102) (by rfl))) rfl, gtb_in (tb_1 (List.mem_of_getElem? (i := 1) (by decide +kernel))) rfl, by decide +kernel, by decide⟩, gtb_in (tb_5 (List.mem_of_getElem? (i := 100) (by decide +kernel))) rfl, gtb_in (tb_5 (List.mem_of_getElem? (i := 101) (by decide +kernel))) rfl, _, _, rfl⟩
theorem ok_X11_odds : OkV mX11_odds 2 11 := ⟨⟨gtb_in (tb_5 (List.mem_of_getElem? (i := 106) (by rfl))) rfl, gtb_in (tb_1 (List.mem_of_getElem? (i := 1) (by decide +kernel))) rfl, by decide +kernel, by decide⟩, gtb_in (tb_5 (List.mem_of_getElem? (i := 104) (by decide +kernel))) rfl, gtb_in (tb_5 (List.mem_of_getElem? (i := 105) (by decide +kernel))) rfl, _, _, rfl⟩
theorem ok_X11_commonDivisor : OkS mX11_commonDivisor 2 := ⟨⟨gtb_in (tb_5 (List.mem_of_getElem? (i := 109) (by rfl))) rfl, gtb_in (tb_1 (List.mem_of_getElem? (i := 1) (by decide +kernel))) rfl, by decide +kernel, by decide⟩, gtb_in (tb_5 (List.mem_of_getElem? (i := 108) (by decide +kernel))) rfl⟩
theorem ok_X11_lasts : OkV mX11_lasts 2 11 := ⟨⟨gtb_in (tb_5 (List.mem_of_getElem? (i := 113) (by rfl))) rfl, gtb_in (tb_1 (List.mem_of_getElem? (i := 1) (by decide +kernel))) rfl, by decide +kernel, by decide⟩, gtb_in (tb_5 (List.mem_of_getElem? (i := 111) (by decide +kernel))) rfl, gtb_in (tb_5 (List.mem_of_getElem? (i := 112) (by decide +kernel))) rfl, _, _, rfl⟩
theorem ok_X11_soon : OkV mX11_soon 2 11 := ⟨⟨gtb_in (tb_5 (List.mem_of_getElem? (i := 118) (by rfl))) rfl, gtb_in (tb_1 (List.mem_of_getElem? (i := 1) (by decide +kernel))) rfl, by decide +kernel, by decide⟩, gtb_in (tb_5 (List.mem_of_getElem? (i := 116) (by decide +kernel))) rfl, gtb_in (tb_5 (List.mem_of_getElem? (i := 117) (by decide +kernel))) rfl, _, _, rfl⟩
theorem ok_X11_will : OkV mX11_will 2 11 := ⟨⟨gtb_in (tb_5 (List.mem_of_getElem? (i := 122) (by rfl))) rfl, gtb_in (tb_1 (List.mem_of_getElem? (i := 1) (by decide +kernel))) rfl, by decide +kernel, by decide⟩, gtb_in (tb_5 (List.mem_of_getElem? (i := 120) (by decide +kernel))) rfl, gtb_in (tb_5 (List.mem_of_getElem? (i := 121) (by decide +kernel))) rfl, _, _, rfl⟩
theorem ok_X11_isAhead : OkV mX11_isAhead 1 11 := ⟨⟨gtb_in (tb_5 (List.mem_of_getElem? (i := 126) (by rfl))) rfl, gtb_in (tb_1 (List.mem_of_getElem? (i := 1) (by decide +kernel))) rfl, by decide +kernel, by decide⟩, gtb_in (tb_5 (List.mem_of_getElem? (i := 125) (by decide +kernel))) rfl, gtb_in (List.mem_append_left _ (List.mem_of_getElem? (i := 31) (by decide +kernel))) rfl, _, _, rfl⟩
theorem ok_X11_strength : OkV mX11_strength 2 11 := ⟨⟨gtb_in (tb_5 (List.mem_of_getElem? (i := 130) (by rfl))) rfl, gtb_in (tb_1 (List.mem_of_getElem? (i := 1) (by decide +kernel))) rfl, by decide +kernel, by decide⟩, gtb_in (tb_5 (List.mem_of_getElem? (i := 128) (by decide +kernel))) rfl, gtb_in (tb_5 (List.mem_of_getElem? (i := 129) (by decide +kernel))) rfl, _, _, rfl⟩
theorem ok_X11_grace : OkV mX11_grace 0 11 := ⟨⟨gtb_in (tb_5 (List.mem_of_getElem? (i := 134) (by rfl))) rfl, gtb_in (tb_1 (List.mem_of_getElem? (i := 1) (by decide +kernel))) rfl, by decide +kernel, by decide⟩, gtb_in (tb_5 (List.mem_of_getElem? (i := 132) (by decide +kernel))) rfl, gtb_in (tb_5 (List.mem_of_getElem? (i := 133) (by decide +kernel))) rfl, _, _, rfl⟩
theorem ok_X11_dented : OkV mX11_dented 3 11 := ⟨⟨gtb_in (tb_5 (List.mem_of_getElem? (i := 138) (by rfl))) rfl, gtb_in (tb_1 (List.mem_of_getElem? (i := 1) (by decide +kernel))) rfl, by decide +kernel, by decide⟩, gtb_in (tb_5 (List.mem_of_getElem? (i := 136) (by decide +kernel))) rfl, gtb_in (tb_5 (List.mem_of_getElem? (i := 137) (by decide +kernel))) rfl, _, _, rfl⟩
theorem ok_X6_tell : OkV mX6_tell 4 6 := ⟨⟨gtb_in (tb_5 (List.mem_of_getElem? (i := 142) (by rfl))) rfl, gtb_in (tb_1 (List.mem_of_getElem? (i := 16) (by decide +kernel))) rfl, by decide +kernel, by decide⟩, gtb_in (tb_5 (List.mem_of_getElem? (i := 140) (by decide +kernel))) rfl, gtb_in (tb_5 (List.mem_of_getElem? (i := 141) (by decide +kernel))) rfl, _, _, rfl⟩
theorem ok_X11_held : OkV mX11_held 3 11 := ⟨⟨gtb_in (tb_5 (List.mem_of_getElem? (i := 146) (by rfl))) rfl, gtb_in (tb_1 (List.mem_of_getElem? (i := 1) (by decide +kernel))) rfl, by decide +kernel, by decide⟩, gtb_in (tb_5 (List.mem_of_getElem? (i := 144) (by decide +kernel))) rfl, gtb_in (tb_5 (List.mem_of_getElem? (i := 145) (by decide +kernel))) rfl, _, _, rfl⟩
theorem ok_X11_untell : OkV mX11_untell 1 11 := ⟨⟨gtb_in (tb_5 (List.mem_of_getElem? (i := 150) (by rfl))) rfl, gtb_in (tb_1 (List.mem_of_getElem? (i := 1) (by decide +kernel))) rfl, by decide +kernel, by decide⟩, gtb_in (tb_5 (List.mem_of_getElem? (i := 148) (by decide +kernel))) rfl, gtb_in (tb_5 (List.mem_of_getElem? (i := 149) (by decide +kernel))) rfl, _, _, rfl⟩
theorem ok_X6_takeBack : OkV mX6_takeBack 1 6 := ⟨⟨gtb_in (tb_5 (List.mem_of_getElem? (i := 154) (by rfl))) rfl, gtb_in (tb_1 (List.mem_of_getElem? (i := 16) (by decide +kernel))) rfl, by decide +kernel, by decide⟩, gtb_in (tb_5 (List.mem_of_getElem? (i := 152) (by decide +kernel))) rfl, gtb_in (tb_5 (List.mem_of_getElem? (i := 153) (by decide +kernel))) rfl, _, _, rfl⟩
theorem ok_X11_later : OkV mX11_later 1 11 := ⟨⟨gtb_in (tb_5 (List.mem_of_getElem? (i := 158) (by rfl))) rfl, gtb_in (tb_1 (List.mem_of_getElem? (i := 1) (by decide +kernel))) rfl, by decide +kernel, by decide⟩, gtb_in (tb_5 (List.mem_of_getElem? (i := 156) (by decide +kernel))) rfl, gtb_in (tb_5 (List.mem_of_getElem? (i := 157) (by decide +kernel))) rfl, _, _, rfl⟩
theorem ok_X6_goOn : OkV mX6_goOn 1 6 := ⟨⟨gtb_in (tb_5 (List.mem_of_getElem? (i := 162) (by rfl))) rfl, gtb_in (tb_1 (List.mem_of_getElem? (i := 16) (by decide +kernel))) rfl, by decide +kernel, by decide⟩, gtb_in (tb_5 (List.mem_of_getElem? (i := 160) (by decide +kernel))) rfl, gtb_in (tb_5 (List.mem_of_getElem? (i := 161) (by decide +kernel))) rfl, _, _, rfl⟩
theorem ok_X11_rows : OkV mX11_rows 1 11 := ⟨⟨gtb_in (tb_5 (List.mem_of_getElem? (i := 167) (by rfl))) rfl, gtb_in (tb_1 (List.mem_of_getElem? (i := 1) (by decide +kernel))) rfl, by decide +kernel, by decide⟩, gtb_in (tb_5 (List.mem_of_getElem? (i := 165) (by decide +kernel))) rfl, gtb_in (tb_5 (List.mem_of_getElem? (i := 166) (by decide +kernel))) rfl, _, _, rfl⟩
theorem ok_X6_tallyRows : OkV mX6_tallyRows 2 6 := ⟨⟨gtb_in (tb_5 (List.mem_of_getElem? (i := 171) (by rfl))) rfl, gtb_in (tb_1 (List.mem_of_getElem? (i := 16) (by decide +kernel))) rfl, by decide +kernel, by decide⟩, gtb_in (tb_5 (List.mem_of_getElem? (i := 169) (by decide +kernel))) rfl, gtb_in (tb_5 (List.mem_of_getElem? (i := 170) (by decide +kernel))) rfl, _, _, rfl⟩
theorem ok_X6_gatherBounds : OkV mX6_gatherBounds 1 6 := ⟨⟨gtb_in (tb_5 (List.mem_of_getElem? (i := 175) (by rfl))) rfl, gtb_in (tb_1 (List.mem_of_getElem? (i := 16) (by decide +kernel))) rfl, by decide +kernel, by decide⟩, gtb_in (tb_5 (List.mem_of_getElem? (i := 174) (by decide +kernel))) rfl, gtb_in (List.mem_append_left _ (List.mem_of_getElem? (i := 32) (by decide +kernel))) rfl, _, _, rfl⟩
theorem ok_X6_narrow : OkV mX6_narrow 3 6 := ⟨⟨gtb_in (tb_5 (List.mem_of_getElem? (i := 180) (by rfl))) rfl, gtb_in (tb_1 (List.mem_of_getElem? (i := 16) (by decide +kernel))) rfl, by decide +kernel, by decide⟩, gtb_in (tb_5 (List.mem_of_getElem? (i := 179) (by decide +kernel))) rfl, gtb_in (List.mem_append_left _ (List.mem_of_getElem? (i := 33) (by decide +kernel))) rfl, _, _, rfl⟩
theorem ok_X6_rowsFrom : OkV mX6_rowsFrom 4 6 := ⟨⟨gtb_in (tb_5 (List.mem_of_getElem? (i := 187) (by rfl))) rfl, gtb_in (tb_1 (List.mem_of_getElem? (i := 16) (by decide +kernel))) rfl, by decide +kernel, by decide⟩, gtb_in (tb_5 (List.mem_of_getElem? (i := 186) (by decide +kernel))) rfl, gtb_in (List.mem_append_left _ (List.mem_of_getElem? (i := 34) (by decide +kernel))) rfl, _, _, rfl⟩
theorem ok_X6_fits : OkV mX6_fits 1 6 := ⟨⟨gtb_in (tb_5 (List.mem_of_getElem? (i := 193) (by rfl))) rfl, gtb_in (tb_1 (List.mem_of_getElem? (i := 16) (by decide +kernel))) rfl, by decide +kernel, by decide⟩, gtb_in (tb_5 (List.mem_of_getElem? (i := 192) (by decide +kernel))) rfl, gtb_in (List.mem_append_left _ (List.mem_of_getElem? (i := 35) (by decide +kernel))) rfl, _, _, rfl⟩
theorem ok_X11_sure : OkV mX11_sure 2 11 := ⟨⟨gtb_in (tb_5 (List.mem_of_getElem? (i := 197) (by rfl))) rfl, gtb_in (tb_1 (List.mem_of_getElem? (i := 1) (by decide +kernel))) rfl, by decide +kernel, by decide⟩, gtb_in (tb_5 (List.mem_of_getElem? (i := 195) (by decide +kernel))) rfl, gtb_in (tb_5 (List.mem_of_getElem? (i := 196) (by decide +kernel))) rfl, _, _, rfl⟩
theorem ok_X11_ask : OkV mX11_ask 2 11 := ⟨⟨gtb_in (tb_5 (List.mem_of_getElem? (i := 201) (by rfl))) rfl, gtb_in (tb_1 (List.mem_of_getElem? (i := 1) (by decide +kernel))) rfl, by decide +kernel, by decide⟩, gtb_in (tb_5 (List.mem_of_getElem? (i := 199) (by decide +kernel))) rfl, gtb_in (tb_5 (List.mem_of_getElem? (i := 200) (by decide +kernel))) rfl, _, _, rfl⟩
theorem ok_X6_mostLeft : OkV mX6_mostLeft 1 6 := ⟨⟨gtb_in (tb_5 (List.mem_of_getElem? (i := 205) (by rfl))) rfl, gtb_in (tb_1 (List.mem_of_getElem? (i := 16) (by decide +kernel))) rfl, by decide +kernel, by decide⟩, gtb_in (tb_5 (List.mem_of_getElem? (i := 203) (by decide +kernel))) rfl, gtb_in (tb_5 (List.mem_of_getElem? (i := 204) (by decide +kernel))) rfl, _, _, rfl⟩
theorem ok_X12_init : OkI mX12_init 0 := ⟨⟨gtb_in (tb_5 (List.mem_of_getElem? (i := 210) (by rfl))) rfl, gtb_in (tb_1 (List.mem_of_getElem? (i := 19) (by decide +kernel))) rfl, by decide +kernel, by decide⟩, rfl, gtb_in (tb_5 (List.mem_of_getElem? (i := 209) (by decide +kernel))) rfl⟩
theorem ok_X12_feed : OkV mX12_feed 5 12 := ⟨⟨gtb_in (tb_6 (List.mem_of_getElem? (i := 222) (by rfl))) rfl, gtb_in (tb_1 (List.mem_of_getElem? (i := 19) (by decide +kernel))) rfl, by decide +kernel, by decide⟩, gtb_in (tb_6 (List.mem_of_getElem? (i := 220) (by decide +kernel))) rfl, gtb_in (tb_6 (List.mem_of_getElem? (i := 221) (by decide +kernel))) rfl, _, _, rfl⟩
theorem ok_X12_four : OkV mX12_four 1 12 := ⟨⟨gtb_in (tb_6 (List.mem_of_getElem? (i := 226) (by rfl))) rfl, gtb_in (tb_1 (List.mem_of_getElem? (i := 19) (by decide +kernel))) rfl, by decide +kernel, by decide⟩, gtb_in (tb_6 (List.mem_of_getElem? (i := 225) (by decide +kernel))) rfl, gtb_in (List.mem_append_left _ (List.mem_of_getElem? (i := 36) (by decide +kernel))) rfl, _, _, rfl⟩
theorem ok_X12_end : OkV mX12_end 1 12 := ⟨⟨gtb_in (tb_6 (List.mem_of_getElem? (i := 230) (by rfl))) rfl, gtb_in (tb_1 (List.mem_of_getElem? (i := 19) (by decide +kernel))) rfl, by decide +kernel, by decide⟩, gtb_in (tb_6 (List.mem_of_getElem? (i := 228) (by decide +kernel))) rfl, gtb_in (tb_6 (List.mem_of_getElem? (i := 229) (by decide +kernel))) rfl, _, _, rfl⟩
theorem ok_X12_chapel : OkV mX12_chapel 0 12 := ⟨⟨gtb_in (tb_6 (List.mem_of_getElem? (i := 234) (by rfl))) rfl, gtb_in (tb_1 (List.mem_of_getElem? (i := 19) (by decide +kernel))) rfl, by decide +kernel, by decide⟩, gtb_in (tb_6 (List.mem_of_getElem? (i := 232) (by decide +kernel))) rfl, gtb_in (tb_6 (List.mem_of_getElem? (i := 233) (by decide +kernel))) rfl, _, _, rfl⟩
theorem ok_X12_readAll : OkV mX12_readAll 0 12 := ⟨⟨gtb_in (tb_6 (List.mem_of_getElem? (i := 238) (by rfl))) rfl, gtb_in (tb_1 (List.mem_of_getElem? (i := 19) (by decide +kernel))) rfl, by decide +kernel, by decide⟩, gtb_in (tb_6 (List.mem_of_getElem? (i := 237) (by decide +kernel))) rfl, gtb_in (List.mem_append_left _ (List.mem_of_getElem? (i := 37) (by decide +kernel))) rfl, _, _, rfl⟩
theorem ok_X12_token : OkV mX12_token 0 12 := ⟨⟨gtb_in (tb_7 (List.mem_of_getElem? (i := 2) (by rfl))) rfl, gtb_in (tb_1 (List.mem_of_getElem? (i := 19) (by decide +kernel))) rfl, by decide +kernel, by decide⟩, gtb_in (tb_7 (List.mem_of_getElem? (i := 1) (by decide +kernel))) rfl, gtb_in (List.mem_append_left _ (List.mem_of_getElem? (i := 38) (by decide +kernel))) rfl, _, _, rfl⟩
theorem ok_X12_here : OkV mX12_here 1 12 := ⟨⟨gtb_in (tb_7 (List.mem_of_getElem? (i := 6) (by rfl))) rfl, gtb_in (tb_1 (List.mem_of_getElem? (i := 19) (by decide +kernel))) rfl, by decide +kernel, by decide⟩, gtb_in (tb_7 (List.mem_of_getElem? (i := 5) (by decide +kernel))) rfl, gtb_in (List.mem_append_left _ (List.mem_of_getElem? (i := 39) (by decide +kernel))) rfl, _, _, rfl⟩
theorem ok_X12_isLetter : OkS mX12_isLetter 1 := ⟨⟨gtb_in (tb_7 (List.mem_of_getElem? (i := 9) (by rfl))) rfl, gtb_in (tb_1 (List.mem_of_getElem? (i := 19) (by decide +kernel))) rfl, by decide +kernel, by decide⟩, gtb_in (tb_7 (List.mem_of_getElem? (i := 8) (by decide +kernel))) rfl⟩
theorem ok_X12_isDigit : OkS mX12_isDigit 1 := ⟨⟨gtb_in (tb_7 (List.mem_of_getElem? (i := 12) (by rfl))) rfl, gtb_in (tb_1 (List.mem_of_getElem? (i := 19) (by decide +kernel))) rfl, by decide +kernel, by decide⟩, gtb_in (tb_7 (List.mem_of_getElem? (i := 11) (by decide +kernel))) rfl⟩
theorem ok_X12_isSign : OkS mX12_isSign 1 := ⟨⟨gtb_in (tb_7 (List.mem_of_getElem? (i := 15) (by rfl))) rfl, gtb_in (tb_1 (List.mem_of_getElem? (i := 19) (by decide +kernel))) rfl, by decide +kernel, by decide⟩, gtb_in (tb_7 (List.mem_of_getElem? (i := 14) (by decide +kernel))) rfl⟩
theorem ok_X12_readLine : OkV mX12_readLine 0 12 := ⟨⟨gtb_in (tb_7 (List.mem_of_getElem? (i := 19) (by rfl))) rfl, gtb_in (tb_1 (List.mem_of_getElem? (i := 19) (by decide +kernel))) rfl, by decide +kernel, by decide⟩, gtb_in (tb_7 (List.mem_of_getElem? (i := 18) (by decide +kernel))) rfl, gtb_in (List.mem_append_left _ (List.mem_of_getElem? (i := 40) (by decide +kernel))) rfl, _, _, rfl⟩
theorem ok_X12_isWord : OkV mX12_isWord 1 12 := ⟨⟨gtb_in (tb_7 (List.mem_of_getElem? (i := 24) (by rfl))) rfl, gtb_in (tb_1 (List.mem_of_getElem? (i := 19) (by decide +kernel))) rfl, by decide +kernel, by decide⟩, gtb_in (tb_7 (List.mem_of_getElem? (i := 23) (by decide +kernel))) rfl, gtb_in (List.mem_append_left _ (List.mem_of_getElem? (i := 41) (by decide +kernel))) rfl, _, _, rfl⟩
theorem ok_X12_readHearth : OkV mX12_readHearth 0 12 := ⟨⟨gtb_in (tb_7 (List.mem_of_getElem? (i := 28) (by rfl))) rfl, gtb_in (tb_1 (List.mem_of_getElem? (i := 19) (by decide +kernel))) rfl, by decide +kernel, by decide⟩, gtb_in (tb_7 (List.mem_of_getElem? (i := 27) (by decide +kernel))) rfl, gtb_in (List.mem_append_left _ (List.mem_of_getElem? (i := 42) (by decide +kernel))) rfl, _, _, rfl⟩
theorem ok_X12_newName : OkV mX12_newName 2 12 := ⟨⟨gtb_in (tb_7 (List.mem_of_getElem? (i := 32) (by rfl))) rfl, gtb_in (tb_1 (List.mem_of_getElem? (i := 19) (by decide +kernel))) rfl, by decide +kernel, by decide⟩, gtb_in (tb_7 (List.mem_of_getElem? (i := 31) (by decide +kernel))) rfl, gtb_in (List.mem_append_left _ (List.mem_of_getElem? (i := 43) (by decide +kernel))) rfl, _, _, rfl⟩
theorem ok_X12_isName : OkV mX12_isName 0 12 := ⟨⟨gtb_in (tb_7 (List.mem_of_getElem? (i := 36) (by rfl))) rfl, gtb_in (tb_1 (List.mem_of_getElem? (i := 19) (by decide +kernel))) rfl, by decide +kernel, by decide⟩, gtb_in (tb_7 (List.mem_of_getElem? (i := 35) (by decide +kernel))) rfl, gtb_in (List.mem_append_left _ (List.mem_of_getElem? (i := 44) (by decide +kernel))) rfl, _, _, rfl⟩
theorem ok_X12_isOwn : OkV mX12_isOwn 0 12 := ⟨⟨gtb_in (tb_7 (List.mem_of_getElem? (i := 40) (by rfl))) rfl, gtb_in (tb_1 (List.mem_of_getElem? (i := 19) (by decide +kernel))) rfl, by decide +kernel, by decide⟩, gtb_in (tb_7 (List.mem_of_getElem? (i := 39) (by decide +kernel))) rfl, gtb_in (List.mem_append_left _ (List.mem_of_getElem? (i := 45) (by decide +kernel))) rfl, _, _, rfl⟩
theorem ok_X12_wrong : OkV mX12_wrong 1 12 := ⟨⟨gtb_in (tb_7 (List.mem_of_getElem? (i := 62) (by rfl))) rfl, gtb_in (tb_1 (List.mem_of_getElem? (i := 19) (by decide +kernel))) rfl, by decide +kernel, by decide⟩, gtb_in (tb_7 (List.mem_of_getElem? (i := 61) (by decide +kernel))) rfl, gtb_in (List.mem_append_left _ (List.mem_of_getElem? (i := 46) (by decide +kernel))) rfl, _, _, rfl⟩
theorem ok_X12_told : OkV mX12_told 3 12 := ⟨⟨gtb_in (tb_7 (List.mem_of_getElem? (i := 66) (by rfl))) rfl, gtb_in (tb_1 (List.mem_of_getElem? (i := 19) (by decide +kernel))) rfl, by decide +kernel, by decide⟩, gtb_in (tb_7 (List.mem_of_getElem? (i := 65) (by decide +kernel))) rfl, gtb_in (List.mem_append_left _ (List.mem_of_getElem? (i := 47) (by decide +kernel))) rfl, _, _, rfl⟩
theorem ok_X12_want : OkV mX12_want 1 12 := ⟨⟨gtb_in (tb_7 (List.mem_of_getElem? (i := 70) (by rfl))) rfl, gtb_in (tb_1 (List.mem_of_getElem? (i := 19) (by decide +kernel))) rfl, by decide +kernel, by decide⟩, gtb_in (tb_7 (List.mem_of_getElem? (i := 69) (by decide +kernel))) rfl, gtb_in (List.mem_append_left _ (List.mem_of_getElem? (i := 48) (by decide +kernel))) rfl, _, _, rfl⟩
theorem ok_X12_toldNumber : OkV mX12_toldNumber 2 12 := ⟨⟨gtb_in (tb_7 (List.mem_of_getElem? (i := 74) (by rfl))) rfl, gtb_in (tb_1 (List.mem_of_getElem? (i := 19) (by decide +kernel))) rfl, by decide +kernel, by decide⟩, gtb_in (tb_7 (List.mem_of_getElem? (i := 73) (by decide +kernel))) rfl, gtb_in (List.mem_append_left _ (List.mem_of_getElem? (i := 49) (by decide +kernel))) rfl, _, _, rfl⟩
theorem ok_X12_option : OkV mX12_option 3 12 := ⟨⟨gtb_in (tb_7 (List.mem_of_getElem? (i := 78) (by rfl))) rfl, gtb_in (tb_1 (List.mem_of_getElem? (i := 19) (by decide +kernel))) rfl, by decide +kernel, by decide⟩, gtb_in (tb_7 (List.mem_of_getElem? (i := 77) (by decide +kernel))) rfl, gtb_in (List.mem_append_left _ (List.mem_of_getElem? (i := 50) (by decide +kernel))) rfl, _, _, rfl⟩
theorem ok_X12_readStool : OkV mX12_readStool 0 12 := ⟨⟨gtb_in (tb_7 (List.mem_of_getElem? (i := 82) (by rfl))) rfl, gtb_in (tb_1 (List.mem_of_getElem? (i := 19) (by decide +kernel))) rfl, by decide +kernel, by decide⟩, gtb_in (tb_7 (List.mem_of_getElem? (i := 81) (by decide +kernel))) rfl, gtb_in (List.mem_append_left _ (List.mem_of_getElem? (i := 51) (by decide +kernel))) rfl, _, _, rfl⟩
theorem ok_X12_formula : OkV mX12_formula 1 12 := ⟨⟨gtb_in (tb_7 (List.mem_of_getElem? (i := 86) (by rfl))) rfl, gtb_in (tb_1 (List.mem_of_getElem? (i := 19) (by decide +kernel))) rfl, by decide +kernel, by decide⟩, gtb_in (tb_7 (List.mem_of_getElem? (i := 85) (by decide +kernel))) rfl, gtb_in (List.mem_append_left _ (List.mem_of_getElem? (i := 52) (by decide +kernel))) rfl, _, _, rfl⟩
theorem ok_X12_unit : OkV mX12_unit 0 12 := ⟨⟨gtb_in (tb_7 (List.mem_of_getElem? (i := 90) (by rfl))) rfl, gtb_in (tb_1 (List.mem_of_getElem? (i := 19) (by decide +kernel))) rfl, by decide +kernel, by decide⟩, gtb_in (tb_7 (List.mem_of_getElem? (i := 89) (by decide +kernel))) rfl, gtb_in (List.mem_append_left _ (List.mem_of_getElem? (i := 53) (by decide +kernel))) rfl, _, _, rfl⟩
theorem ok_X12_mayNot : OkV mX12_mayNot 0 12 := ⟨⟨gtb_in (tb_7 (List.mem_of_getElem? (i := 94) (by rfl))) rfl, gtb_in (tb_1 (List.mem_of_getElem? (i := 19) (by decide +kernel))) rfl, by decide +kernel, by decide⟩, gtb_in (tb_7 (List.mem_of_getElem? (i := 93) (by decide +kernel))) rfl, gtb_in (List.mem_append_left _ (List.mem_of_getElem? (i := 54) (by decide +kernel))) rfl, _, _, rfl⟩
theorem ok_X12_tight : OkS mX12_tight 1 := ⟨⟨gtb_in (tb_7 (List.mem_of_getElem? (i := 97) (by rfl))) rfl, gtb_in (tb_1 (List.mem_of_getElem? (i := 19) (by decide +kernel))) rfl, by decide +kernel, by decide⟩, gtb_in (tb_7 (List.mem_of_getElem? (i := 96) (by decide +kernel))) rfl⟩
theorem ok_X12_openUp : OkV mX12_openUp 1 12 := ⟨⟨gtb_in (tb_7 (List.mem_of_getElem? (i := 101) (by rfl))) rfl, gtb_in (tb_1 (List.mem_of_getElem? (i := 19) (by decide +kernel))) rfl, by decide +kernel, by decide⟩, gtb_in (tb_7 (List.mem_of_getElem? (i := 100) (by decide +kernel))) rfl, gtb_in (List.mem_append_left _ (List.mem_of_getElem? (i := 55) (by decide +kernel))) rfl, _, _, rfl⟩
theorem ok_X12_isFull : OkV mX12_isFull 0 12 := ⟨⟨gtb_in (tb_7 (List.mem_of_getElem? (i := 105) (by rfl))) rfl, gtb_in (tb_1 (List.mem_of_getElem? (i := 19) (by decide +kernel))) rfl, by decide +kernel, by decide⟩, gtb_in (tb_7 (List.mem_of_getElem? (i := 104) (by decide +kernel))) rfl, gtb_in (List.mem_append_left _ (List.mem_of_getElem? (i := 56) (by decide +kernel))) rfl, _, _, rfl⟩
theorem ok_X12_countUnit : OkV mX12_countUnit 0 12 := ⟨⟨gtb_in (tb_7 (List.mem_of_getElem? (i := 109) (by rfl))) rfl, gtb_in (tb_1 (List.mem_of_getElem? (i := 19) (by decide +kernel))) rfl, by decide +kernel, by decide⟩, gtb_in (tb_7 (List.mem_of_getElem? (i := 108) (by decide +kernel))) rfl, gtb_in (List.mem_append_left _ (List.mem_of_getElem? (i := 57) (by decide +kernel))) rfl, _, _, rfl⟩
theorem ok_X12_asked : OkV mX12_asked 0 12 := ⟨⟨gtb_in (tb_7 (List.mem_of_getElem? (i := 113) (by rfl))) rfl, gtb_in (tb_1 (List.mem_of_getElem? (i := 19) (by decide +kernel))) rfl, by decide +kernel, by decide⟩, gtb_in (tb_7 (List.mem_of_getElem? (i := 112) (by decide +kernel))) rfl, gtb_in (List.mem_append_left _ (List.mem_of_getElem? (i := 58) (by decide +kernel))) rfl, _, _, rfl⟩
theorem ok_X12_add : OkV mX12_add 2 12 := ⟨⟨gtb_in (tb_7 (List.mem_of_getElem? (i := 117) (by rfl))) rfl, gtb_in (tb_1 (List.mem_of_getElem? (i := 19) (by decide +kernel))) rfl, by decide +kernel, by decide⟩, gtb_in (tb_7 (List.mem_of_getElem? (i := 116) (by decide +kernel))) rfl, gtb_in (List.mem_append_left _ (List.mem_of_getElem? (i := 59) (by decide +kernel))) rfl, _, _, rfl⟩
theorem ok_X12_sign : OkV mX12_sign 0 12 := ⟨⟨gtb_in (tb_7 (List.mem_of_getElem? (i := 121) (by rfl))) rfl, gtb_in (tb_1 (List.mem_of_getElem? (i := 19) (by decide +kernel))) rfl, by decide +kernel, by decide⟩, gtb_in (tb_7 (List.mem_of_getElem? (i := 120) (by decide +kernel))) rfl, gtb_in (List.mem_append_left _ (List.mem_of_getElem? (i := 60) (by decide +kernel))) rfl, _, _, rfl⟩
theorem ok_X12_hasBracket : OkV mX12_hasBracket 0 12 := ⟨⟨gtb_in (tb_7 (List.mem_of_getElem? (i := 125) (by rfl))) rfl, gtb_in (tb_1 (List.mem_of_getElem? (i := 19) (by decide +kernel))) rfl, by decide +kernel, by decide⟩, gtb_in (tb_7 (List.mem_of_getElem? (i := 124) (by decide +kernel))) rfl, gtb_in (List.mem_append_left _ (List.mem_of_getElem? (i := 61) (by decide +kernel))) rfl, _, _, rfl⟩
theorem ok_X12_close : OkV mX12_close 1 12 := ⟨⟨gtb_in (tb_7 (List.mem_of_getElem? (i := 129) (by rfl))) rfl, gtb_in (tb_1 (List.mem_of_getElem? (i := 19) (by decide +kernel))) rfl, by decide +kernel, by decide⟩, gtb_in (tb_7 (List.mem_of_getElem? (i := 128) (by decide +kernel))) rfl, gtb_in (List.mem_append_left _ (List.mem_of_getElem? (i := 62) (by decide +kernel))) rfl, _, _, rfl⟩
theorem ok_X12_hasRelation : OkV mX12_hasRelation 0 12 := ⟨⟨gtb_in (tb_7 (List.mem_of_getElem? (i := 133) (by rfl))) rfl, gtb_in (tb_1 (List.mem_of_getElem? (i := 19) (by decide +kernel))) rfl, by decide +kernel, by decide⟩, gtb_in (tb_7 (List.mem_of_getElem? (i := 132) (by decide +kernel))) rfl, gtb_in (List.mem_append_left _ (List.mem_of_getElem? (i := 63) (by decide +kernel))) rfl, _, _, rfl⟩
theorem ok_X12_begin : OkV mX12_begin 0 12 := ⟨⟨gtb_in (tb_7 (List.mem_of_getElem? (i := 137) (by rfl))) rfl, gtb_in (tb_1 (List.mem_of_getElem? (i := 19) (by decide +kernel))) rfl, by decide +kernel, by decide⟩, gtb_in (tb_7 (List.mem_of_getElem? (i := 136) (by decide +kernel))) rfl, gtb_in (List.mem_append_left _ (List.mem_of_getElem? (i := 64) (by decide +kernel))) rfl, _, _, rfl⟩
theorem ok_X12_keepAir : OkV mX12_keepAir 0 12 := ⟨⟨gtb_in (tb_7 (List.mem_of_getElem? (i := 141) (by rfl))) rfl, gtb_in (tb_1 (List.mem_of_getElem? (i := 19) (by decide +kernel))) rfl, by decide +kernel, by decide⟩, gtb_in (tb_7 (List.mem_of_getElem? (i := 140) (by decide +kernel))) rfl, gtb_in (List.mem_append_left _ (List.mem_of_getElem? (i := 65) (by decide +kernel))) rfl, _, _, rfl⟩
theorem ok_X12_fault : OkV mX12_fault 1 12 := ⟨⟨gtb_in (tb_7 (List.mem_of_getElem? (i := 145) (by rfl))) rfl, gtb_in (tb_1 (List.mem_of_getElem? (i := 19) (by decide +kernel))) rfl, by decide +kernel, by decide⟩, gtb_in (tb_7 (List.mem_of_getElem? (i := 143) (by decide +kernel))) rfl, gtb_in (tb_7 (List.mem_of_getElem? (i := 144) (by decide +kernel))) rfl, _, _, rfl⟩
theorem ok_X12_hearth : OkV mX12_hearth 2 12 := ⟨⟨gtb_in (tb_7 (List.mem_of_getElem? (i := 149) (by rfl))) rfl, gtb_in (tb_1 (List.mem_of_getElem? (i := 19) (by decide +kernel))) rfl, by decide +kernel, by decide⟩, gtb_in (tb_7 (List.mem_of_getElem? (i := 147) (by decide +kernel))) rfl, gtb_in (tb_7 (List.mem_of_getElem? (i := 148) (by decide +kernel))) rfl, _, _, rfl⟩
theorem ok_X12_isHearth : OkV mX12_isHearth 1 12 := ⟨⟨gtb_in (tb_7 (List.mem_of_getElem? (i := 153) (by rfl))) rfl, gtb_in (tb_1 (List.mem_of_getElem? (i := 19) (by decide +kernel))) rfl, by decide +kernel, by decide⟩, gtb_in (tb_7 (List.mem_of_getElem? (i := 152) (by decide +kernel))) rfl, gtb_in (List.mem_append_left _ (List.mem_of_getElem? (i := 66) (by decide +kernel))) rfl, _, _, rfl⟩
theorem ok_X12_isIn : OkS mX12_isIn 3 := ⟨⟨gtb_in (tb_7 (List.mem_of_getElem? (i := 156) (by rfl))) rfl, gtb_in (tb_1 (List.mem_of_getElem? (i := 19) (by decide +kernel))) rfl, by decide +kernel, by decide⟩, gtb_in (tb_7 (List.mem_of_getElem? (i := 155) (by decide +kernel))) rfl⟩
theorem ok_X12_fill : OkV mX12_fill 0 12 := ⟨⟨gtb_in (tb_7 (List.mem_of_getElem? (i := 160) (by rfl))) rfl, gtb_in (tb_1 (List.mem_of_getElem? (i := 19) (by decide +kernel))) rfl, by decide +kernel, by decide⟩, gtb_in (tb_7 (List.mem_of_getElem? (i := 159) (by decide +kernel))) rfl, gtb_in (List.mem_append_left _ (List.mem_of_getElem? (i := 67) (by decide +kernel))) rfl, _, _, rfl⟩
theorem ok_X12_sentTo : OkV mX12_sentTo 1 12 := ⟨⟨gtb_in (tb_7 (List.mem_of_getElem? (i := 164) (by rfl))) rfl, gtb_in (tb_1 (List.mem_of_getElem? (i := 19) (by decide +kernel))) rfl, by decide +kernel, by decide⟩, gtb_in (tb_7 (List.mem_of_getElem? (i := 163) (by decide +kernel))) rfl, gtb_in (List.mem_append_left _ (List.mem_of_getElem? (i := 68) (by decide +kernel))) rfl, _, _, rfl⟩
theorem ok_X12_truth : OkS mX12_truth 1 := ⟨⟨gtb_in (tb_7 (List.mem_of_getElem? (i := 167) (by rfl))) rfl, gtb_in (tb_1 (List.mem_of_getElem? (i := 19) (by decide +kernel))) rfl, by decide +kernel, by decide⟩, gtb_in (tb_7 (List.mem_of_getElem? (i := 166) (by decide +kernel))) rfl⟩
theorem ok_X12_quarrels : OkV mX12_quarrels 1 12 := ⟨⟨gtb_in (tb_7 (List.mem_of_getElem? (i := 171) (by rfl))) rfl, gtb_in (tb_1 (List.mem_of_getElem? (i := 19) (by decide +kernel))) rfl, by decide +kernel, by decide⟩, gtb_in (tb_7 (List.mem_of_getElem? (i := 170) (by decide +kernel))) rfl, gtb_in (List.mem_append_left _ (List.mem_of_getElem? (i := 69) (by decide +kernel))) rfl, _, _, rfl⟩
theorem ok_X12_stool : OkV mX12_stool 2 12 := ⟨⟨gtb_in (tb_7 (List.mem_of_getElem? (i := 175) (by rfl))) rfl, gtb_in (tb_1 (List.mem_of_getElem? (i := 19) (by decide +kernel))) rfl, by decide +kernel, by decide⟩, gtb_in (tb_7 (List.mem_of_getElem? (i := 173) (by decide +kernel))) rfl, gtb_in (tb_7 (List.mem_of_getElem? (i := 174) (by decide +kernel))) rfl, _, _, rfl⟩
theorem ok_X12_isStool : OkV mX12_isStool 1 12 := ⟨⟨gtb_in (tb_7 (List.mem_of_getElem? (i := 179) (by rfl))) rfl, gtb_in (tb_1 (List.mem_of_getElem? (i := 19) (by decide +kernel))) rfl, by decide +kernel, by decide⟩, gtb_in (tb_7 (List.mem_of_getElem? (i := 178) (by decide +kernel))) rfl, gtb_in (List.mem_append_left _ (List.mem_of_getElem? (i := 70) (by decide +kernel))) rfl, _, _, rfl⟩
theorem ok_X12_isSaved : OkV mX12_isSaved 1 12 := ⟨⟨gtb_in (tb_7 (List.mem_of_getElem? (i := 183) (by rfl))) rfl, gtb_in (tb_1 (List.mem_of_getElem? (i := 19) (by decide +kernel))) rfl, by decide +kernel, by decide⟩, gtb_in (tb_7 (List.mem_of_getElem? (i := 182) (by decide +kernel))) rfl, gtb_in (List.mem_append_left _ (List.mem_of_getElem? (i := 71) (by decide +kernel))) rfl, _, _, rfl⟩
theorem ok_X12_load : OkV mX12_load 1 12 := ⟨⟨gtb_in (tb_7 (List.mem_of_getElem? (i := 187) (by rfl))) rfl, gtb_in (tb_1 (List.mem_of_getElem? (i := 19) (by decide +kernel))) rfl, by decide +kernel, by decide⟩, gtb_in (tb_7 (List.mem_of_getElem? (i := 185) (by decide +kernel))) rfl, gtb_in (tb_7 (List.mem_of_getElem? (i := 186) (by decide +kernel))) rfl, _, _, rfl⟩
theorem ok_X12_loadOf : OkV mX12_loadOf 1 12 := ⟨⟨gtb_in (tb_7 (List.mem_of_getElem? (i := 191) (by rfl))) rfl, gtb_in (tb_1 (List.mem_of_getElem? (i := 19) (by decide +kernel))) rfl, by decide +kernel, by decide⟩, gtb_in (tb_7 (List.mem_of_getElem? (i := 190) (by decide +kernel))) rfl, gtb_in (List.mem_append_left _ (List.mem_of_getElem? (i := 72) (by decide +kernel))) rfl, _, _, rfl⟩
theorem ok_X12_members : OkS mX12_members 1 := ⟨⟨gtb_in (tb_7 (List.mem_of_getElem? (i := 194) (by rfl))) rfl, gtb_in (tb_1 (List.mem_of_getElem? (i := 19) (by decide +kernel))) rfl, by decide +kernel, by decide⟩, gtb_in (tb_7 (List.mem_of_getElem? (i := 193) (by decide +kernel))) rfl⟩
theorem ok_X12_loadAt : OkV mX12_loadAt 3 12 := ⟨⟨gtb_in (tb_7 (List.mem_of_getElem? (i := 198) (by rfl))) rfl, gtb_in (tb_1 (List.mem_of_getElem? (i := 19) (by decide +kernel))) rfl, by decide +kernel, by decide⟩, gtb_in (tb_7 (List.mem_of_getElem? (i := 197) (by decide +kernel))) rfl, gtb_in (List.mem_append_left _ (List.mem_of_getElem? (i := 73) (by decide +kernel))) rfl, _, _, rfl⟩
theorem ok_X12_heavyOf : OkV mX12_heavyOf 1 12 := ⟨⟨gtb_in (tb_7 (List.mem_of_getElem? (i := 202) (by rfl))) rfl, gtb_in (tb_1 (List.mem_of_getElem? (i := 19) (by decide +kernel))) rfl, by decide +kernel, by decide⟩, gtb_in (tb_7 (List.mem_of_getElem? (i := 201) (by decide +kernel))) rfl, gtb_in (List.mem_append_left _ (List.mem_of_getElem? (i := 74) (by decide +kernel))) rfl, _, _, rfl⟩
theorem ok_X12_worked : OkV mX12_worked 6 12 := ⟨⟨gtb_in (tb_7 (List.mem_of_getElem? (i := 206) (by rfl))) rfl, gtb_in (tb_1 (List.mem_of_getElem? (i := 19) (by decide +kernel))) rfl, by decide +kernel, by decide⟩, gtb_in (tb_7 (List.mem_of_getElem? (i := 205) (by decide +kernel))) rfl, gtb_in (List.mem_append_left _ (List.mem_of_getElem? (i := 75) (by decide +kernel))) rfl, _, _, rfl⟩
theorem ok_X12_done : OkS mX12_done 3 := ⟨⟨gtb_in (tb_7 (List.mem_of_getElem? (i := 209) (by rfl))) rfl, gtb_in (tb_1 (List.mem_of_getElem? (i := 19) (by decide +kernel))) rfl, by decide +kernel, by decide⟩, gtb_in (tb_7 (List.mem_of_getElem? (i := 208) (by decide +kernel))) rfl⟩
theorem ok_X12_within : OkS mX12_within 2 := ⟨⟨gtb_in (tb_7 (List.mem_of_getElem? (i := 212) (by rfl))) rfl, gtb_in (tb_1 (List.mem_of_getElem? (i := 19) (by decide +kernel))) rfl, by decide +kernel, by decide⟩, gtb_in (tb_7 (List.mem_of_getElem? (i := 211) (by decide +kernel))) rfl⟩
theorem ok_X12_send : OkV mX12_send 2 12 := ⟨⟨gtb_in (tb_7 (List.mem_of_getElem? (i := 216) (by rfl))) rfl, gtb_in (tb_1 (List.mem_of_getElem? (i := 19) (by decide +kernel))) rfl, by decide +kernel, by decide⟩, gtb_in (tb_7 (List.mem_of_getElem? (i := 214) (by decide +kernel))) rfl, gtb_in (tb_7 (List.mem_of_getElem? (i := 215) (by decide +kernel))) rfl, _, _, rfl⟩
theorem ok_X12_hasRoom : OkV mX12_hasRoom 1 12 := ⟨⟨gtb_in (tb_7 (List.mem_of_getElem? (i := 220) (by rfl))) rfl, gtb_in (tb_1 (List.mem_of_getElem? (i := 19) (by decide +kernel))) rfl, by decide +kernel, by decide⟩, gtb_in (tb_7 (List.mem_of_getElem? (i := 219) (by decide +kernel))) rfl, gtb_in (List.mem_append_left _ (List.mem_of_getElem? (i := 76) (by decide +kernel))) rfl, _, _, rfl⟩
theorem ok_X12_act : OkV mX12_act 0 12 := ⟨⟨gtb_in (tb_7 (List.mem_of_getElem? (i := 224) (by rfl))) rfl, gtb_in (tb_1 (List.mem_of_getElem? (i := 19) (by decide +kernel))) rfl, by decide +kernel, by decide⟩, gtb_in (tb_7 (List.mem_of_getElem? (i := 223) (by decide +kernel))) rfl, gtb_in (List.mem_append_left _ (List.mem_of_getElem? (i := 77) (by decide +kernel))) rfl, _, _, rfl⟩
theorem ok_X12_call : OkV mX12_call 1 12 := ⟨⟨gtb_in (tb_7 (List.mem_of_getElem? (i := 228) (by rfl))) rfl, gtb_in (tb_1 (List.mem_of_getElem? (i := 19) (by decide +kernel))) rfl, by decide +kernel, by decide⟩, gtb_in (tb_7 (List.mem_of_getElem? (i := 226) (by decide +kernel))) rfl, gtb_in (tb_7 (List.mem_of_getElem? (i := 227) (by decide +kernel))) rfl, _, _, rfl⟩
theorem ok_X12_evening : OkV mX12_evening 0 12 := ⟨⟨gtb_in (tb_7 (List.mem_of_getElem? (i := 232) (by rfl))) rfl, gtb_in (tb_1 (List.mem_of_getElem? (i := 19) (by decide +kernel))) rfl, by decide +kernel, by decide⟩, gtb_in (tb_7 (List.mem_of_getElem? (i := 230) (by decide +kernel))) rfl, gtb_in (tb_7 (List.mem_of_getElem? (i := 231) (by decide +kernel))) rfl, _, _, rfl⟩
theorem ok_X12_drawCold : OkV mX12_drawCold 0 12 := ⟨⟨gtb_in (tb_7 (List.mem_of_getElem? (i := 236) (by rfl))) rfl, gtb_in (tb_1 (List.mem_of_getElem? (i := 19) (by decide +kernel))) rfl, by decide +kernel, by decide⟩, gtb_in (tb_7 (List.mem_of_getElem? (i := 235) (by decide +kernel))) rfl, gtb_in (List.mem_append_left _ (List.mem_of_getElem? (i := 78) (by decide +kernel))) rfl, _, _, rfl⟩
theorem ok_X12_goEvening : OkV mX12_goEvening 1 12 := ⟨⟨gtb_in (tb_8 (List.mem_of_getElem? (i := 0) (by rfl))) rfl, gtb_in (tb_1 (List.mem_of_getElem? (i := 19) (by decide +kernel))) rfl, by decide +kernel, by decide⟩, gtb_in (tb_7 (List.mem_of_getElem? (i := 239) (by decide +kernel))) rfl, gtb_in (List.mem_append_left _ (List.mem_of_getElem? (i := 79) (by decide +kernel))) rfl, _, _, rfl⟩
theorem ok_X12_fareOf : OkV mX12_fareOf 1 12 := ⟨⟨gtb_in (tb_8 (List.mem_of_getElem? (i := 4) (by rfl))) rfl, gtb_in (tb_1 (List.mem_of_getElem? (i := 19) (by decide +kernel))) rfl, by decide +kernel, by decide⟩, gtb_in (tb_8 (List.mem_of_getElem? (i := 3) (by decide +kernel))) rfl, gtb_in (List.mem_append_left _ (List.mem_of_getElem? (i := 80) (by decide +kernel))) rfl, _, _, rfl⟩
theorem ok_X12_undo : OkV mX12_undo 0 12 := ⟨⟨gtb_in (tb_8 (List.mem_of_getElem? (i := 8) (by rfl))) rfl, gtb_in (tb_1 (List.mem_of_getElem? (i := 19) (by decide +kernel))) rfl, by decide +kernel, by decide⟩, gtb_in (tb_8 (List.mem_of_getElem? (i := 6) (by decide +kernel))) rfl, gtb_in (tb_8 (List.mem_of_getElem? (i := 7) (by decide +kernel))) rfl, _, _, rfl⟩
theorem ok_X12_exchange : OkV mX12_exchange 1 12 := ⟨⟨gtb_in (tb_8 (List.mem_of_getElem? (i := 12) (by rfl))) rfl, gtb_in (tb_1 (List.mem_of_getElem? (i := 19) (by decide +kernel))) rfl, by decide +kernel, by decide⟩, gtb_in (tb_8 (List.mem_of_getElem? (i := 11) (by decide +kernel))) rfl, gtb_in (List.mem_append_left _ (List.mem_of_getElem? (i := 81) (by decide +kernel))) rfl, _, _, rfl⟩
theorem ok_X12_redo : OkV mX12_redo 0 12 := ⟨⟨gtb_in (tb_8 (List.mem_of_getElem? (i := 16) (by rfl))) rfl, gtb_in (tb_1 (List.mem_of_getElem? (i := 19) (by decide +kernel))) rfl, by decide +kernel, by decide⟩, gtb_in (tb_8 (List.mem_of_getElem? (i := 14) (by decide +kernel))) rfl, gtb_in (tb_8 (List.mem_of_getElem? (i := 15) (by decide +kernel))) rfl, _, _, rfl⟩
theorem ok_X12_tonight : OkV mX12_tonight 1 12 := ⟨⟨gtb_in (tb_8 (List.mem_of_getElem? (i := 20) (by rfl))) rfl, gtb_in (tb_1 (List.mem_of_getElem? (i := 19) (by decide +kernel))) rfl, by decide +kernel, by decide⟩, gtb_in (tb_8 (List.mem_of_getElem? (i := 18) (by decide +kernel))) rfl, gtb_in (tb_8 (List.mem_of_getElem? (i := 19) (by decide +kernel))) rfl, _, _, rfl⟩
theorem ok_X12_whoFares : OkV mX12_whoFares 1 12 := ⟨⟨gtb_in (tb_8 (List.mem_of_getElem? (i := 24) (by rfl))) rfl, gtb_in (tb_1 (List.mem_of_getElem? (i := 19) (by decide +kernel))) rfl, by decide +kernel, by decide⟩, gtb_in (tb_8 (List.mem_of_getElem? (i := 23) (by decide +kernel))) rfl, gtb_in (List.mem_append_left _ (List.mem_of_getElem? (i := 82) (by decide +kernel))) rfl, _, _, rfl⟩
theorem ok_X12_walk : OkV mX12_walk 0 12 := ⟨⟨gtb_in (tb_8 (List.mem_of_getElem? (i := 28) (by rfl))) rfl, gtb_in (tb_1 (List.mem_of_getElem? (i := 19) (by decide +kernel))) rfl, by decide +kernel, by decide⟩, gtb_in (tb_8 (List.mem_of_getElem? (i := 26) (by decide +kernel))) rfl, gtb_in (tb_8 (List.mem_of_getElem? (i := 27) (by decide +kernel))) rfl, _, _, rfl⟩
theorem ok_X12_walkOf : OkV mX12_walkOf 0 12 := ⟨⟨gtb_in (tb_8 (List.mem_of_getElem? (i := 32) (by rfl))) rfl, gtb_in (tb_1 (List.mem_of_getElem? (i := 19) (by decide +kernel))) rfl, by decide +kernel, by decide⟩, gtb_in (tb_8 (List.mem_of_getElem? (i := 31) (by decide +kernel))) rfl, gtb_in (List.mem_append_left _ (List.mem_of_getElem? (i := 83) (by decide +kernel))) rfl, _, _, rfl⟩
theorem ok_X12_wayOf : OkV mX12_wayOf 2 12 := ⟨⟨gtb_in (tb_8 (List.mem_of_getElem? (i := 36) (by rfl))) rfl, gtb_in (tb_1 (List.mem_of_getElem? (i := 19) (by decide +kernel))) rfl, by decide +kernel, by decide⟩, gtb_in (tb_8 (List.mem_of_getElem? (i := 35) (by decide +kernel))) rfl, gtb_in (List.mem_append_left _ (List.mem_of_getElem? (i := 84) (by decide +kernel))) rfl, _, _, rfl⟩
theorem ok_X12_plain : OkS mX12_plain 1 := ⟨⟨gtb_in (tb_8 (List.mem_of_getElem? (i := 39) (by rfl))) rfl, gtb_in (tb_1 (List.mem_of_getElem? (i := 19) (by decide +kernel))) rfl, by decide +kernel, by decide⟩, gtb_in (tb_8 (List.mem_of_getElem? (i := 38) (by decide +kernel))) rfl⟩
theorem ok_X12_round : OkV mX12_round 1 12 := ⟨⟨gtb_in (tb_8 (List.mem_of_getElem? (i := 43) (by rfl))) rfl, gtb_in (tb_1 (List.mem_of_getElem? (i := 19) (by decide +kernel))) rfl, by decide +kernel, by decide⟩, gtb_in (tb_8 (List.mem_of_getElem? (i := 41) (by decide +kernel))) rfl, gtb_in (tb_8 (List.mem_of_getElem? (i := 42) (by decide +kernel))) rfl, _, _, rfl⟩
theorem ok_X12_power : OkS mX12_power 2 := ⟨⟨gtb_in (tb_8 (List.mem_of_getElem? (i := 46) (by rfl))) rfl, gtb_in (tb_1 (List.mem_of_getElem? (i := 19) (by decide +kernel))) rfl, by decide +kernel, by decide⟩, gtb_in (tb_8 (List.mem_of_getElem? (i := 45) (by decide +kernel))) rfl⟩
theorem ok_X12_laySending : OkV mX12_laySending 1 12 := ⟨⟨gtb_in (tb_8 (List.mem_of_getElem? (i := 50) (by rfl))) rfl, gtb_in (tb_1 (List.mem_of_getElem? (i := 19) (by decide +kernel))) rfl, by decide +kernel, by decide⟩, gtb_in (tb_8 (List.mem_of_getElem? (i := 49) (by decide +kernel))) rfl, gtb_in (List.mem_append_left _ (List.mem_of_getElem? (i := 85) (by decide +kernel))) rfl, _, _, rfl⟩
theorem ok_X12_putSending : OkV mX12_putSending 0 12 := ⟨⟨gtb_in (tb_8 (List.mem_of_getElem? (i := 54) (by rfl))) rfl, gtb_in (tb_1 (List.mem_of_getElem? (i := 19) (by decide +kernel))) rfl, by decide +kernel, by decide⟩, gtb_in (tb_8 (List.mem_of_getElem? (i := 53) (by decide +kernel))) rfl, gtb_in (List.mem_append_left _ (List.mem_of_getElem? (i := 86) (by decide +kernel))) rfl, _, _, rfl⟩
theorem ok_X12_service : OkV mX12_service 0 12 := ⟨⟨gtb_in (tb_8 (List.mem_of_getElem? (i := 58) (by rfl))) rfl, gtb_in (tb_1 (List.mem_of_getElem? (i := 19) (by decide +kernel))) rfl, by decide +kernel, by decide⟩, gtb_in (tb_8 (List.mem_of_getElem? (i := 56) (by decide +kernel))) rfl, gtb_in (tb_8 (List.mem_of_getElem? (i := 57) (by decide +kernel))) rfl, _, _, rfl⟩
theorem ok_X12_serves : OkV mX12_serves 0 12 := ⟨⟨gtb_in (tb_8 (List.mem_of_getElem? (i := 63) (by rfl))) rfl, gtb_in (tb_1 (List.mem_of_getElem? (i := 19) (by decide +kernel))) rfl, by decide +kernel, by decide⟩, gtb_in (tb_8 (List.mem_of_getElem? (i := 62) (by decide +kernel))) rfl, gtb_in (List.mem_append_left _ (List.mem_of_getElem? (i := 87) (by decide +kernel))) rfl, _, _, rfl⟩
theorem ok_X12_team : OkV mX12_team 2 12 := ⟨⟨gtb_in (tb_8 (List.mem_of_getElem? (i := 67) (by rfl))) rfl, gtb_in (tb_1 (List.mem_of_getElem? (i := 19) (by decide +kernel))) rfl, by decide +kernel, by decide⟩, gtb_in (tb_8 (List.mem_of_getElem? (i := 65) (by decide +kernel))) rfl, gtb_in (tb_8 (List.mem_of_getElem? (i := 66) (by decide +kernel))) rfl, _, _, rfl⟩
theorem ok_X12_sendJust : OkV mX12_sendJust 2 12 := ⟨⟨gtb_in (tb_8 (List.mem_of_getElem? (i := 71) (by rfl))) rfl, gtb_in (tb_1 (List.mem_of_getElem? (i := 19) (by decide +kernel))) rfl, by decide +kernel, by decide⟩, gtb_in (tb_8 (List.mem_of_getElem? (i := 70) (by decide +kernel))) rfl, gtb_in (List.mem_append_left _ (List.mem_of_getElem? (i := 88) (by decide +kernel))) rfl, _, _, rfl⟩
theorem ok_X12_lasts : OkV mX12_lasts 2 12 := ⟨⟨gtb_in (tb_8 (List.mem_of_getElem? (i := 75) (by rfl))) rfl, gtb_in (tb_1 (List.mem_of_getElem? (i := 19) (by decide +kernel))) rfl, by decide +kernel, by decide⟩, gtb_in (tb_8 (List.mem_of_getElem? (i := 73) (by decide +kernel))) rfl, gtb_in (tb_8 (List.mem_of_getElem? (i := 74) (by decide +kernel))) rfl, _, _, rfl⟩
theorem ok_X12_countsAlone : OkV mX12_countsAlone 2 12 := ⟨⟨gtb_in (tb_8 (List.mem_of_getElem? (i := 79) (by rfl))) rfl, gtb_in (tb_1 (List.mem_of_getElem? (i := 19) (by decide +kernel))) rfl, by decide +kernel, by decide⟩, gtb_in (tb_8 (List.mem_of_getElem? (i := 78) (by decide +kernel))) rfl, gtb_in (List.mem_append_left _ (List.mem_of_getElem? (i := 89) (by decide +kernel))) rfl, _, _, rfl⟩
theorem ok_X12_soon : OkV mX12_soon 2 12 := ⟨⟨gtb_in (tb_8 (List.mem_of_getElem? (i := 83) (by rfl))) rfl, gtb_in (tb_1 (List.mem_of_getElem? (i := 19) (by decide +kernel))) rfl, by decide +kernel, by decide⟩, gtb_in (tb_8 (List.mem_of_getElem? (i := 81) (by decide +kernel))) rfl, gtb_in (tb_8 (List.mem_of_getElem? (i := 82) (by decide +kernel))) rfl, _, _, rfl⟩
theorem ok_X12_change : OkV mX12_change 1 12 := ⟨⟨gtb_in (tb_8 (List.mem_of_getElem? (i := 87) (by rfl))) rfl, gtb_in (tb_1 (List.mem_of_getElem? (i := 19) (by decide +kernel))) rfl, by decide +kernel, by decide⟩, gtb_in (tb_8 (List.mem_of_getElem? (i := 85) (by decide +kernel))) rfl, gtb_in (tb_8 (List.mem_of_getElem? (i := 86) (by decide +kernel))) rfl, _, _, rfl⟩
theorem ok_X12_guests : OkV mX12_guests 2 12 := ⟨⟨gtb_in (tb_8 (List.mem_of_getElem? (i := 91) (by rfl))) rfl, gtb_in (tb_1 (List.mem_of_getElem? (i := 19) (by decide +kernel))) rfl, by decide +kernel, by decide⟩, gtb_in (tb_8 (List.mem_of_getElem? (i := 89) (by decide +kernel))) rfl, gtb_in (tb_8 (List.mem_of_getElem? (i := 90) (by decide +kernel))) rfl, _, _, rfl⟩
theorem ok_X12_callAll : OkV mX12_callAll 0 12 := ⟨⟨gtb_in (tb_8 (List.mem_of_getElem? (i := 95) (by rfl))) rfl, gtb_in (tb_1 (List.mem_of_getElem? (i := 19) (by decide +kernel))) rfl, by decide +kernel, by decide⟩, gtb_in (tb_8 (List.mem_of_getElem? (i := 94) (by decide +kernel))) rfl, gtb_in (List.mem_append_left _ (List.mem_of_getElem? (i := 90) (by decide +kernel))) rfl, _, _, rfl⟩
theorem ok_X12_isRest : OkV mX12_isRest 4 12 := ⟨⟨gtb_in (tb_8 (List.mem_of_getElem? (i := 99) (by rfl))) rfl, gtb_in (tb_1 (List.mem_of_getElem? (i := 19) (by decide +kernel))) rfl, by decide +kernel, by decide⟩, gtb_in (tb_8 (List.mem_of_getElem? (i := 98) (by decide +kernel))) rfl, gtb_in (List.mem_append_left _ (List.mem_of_getElem? (i := 91) (by decide +kernel))) rfl, _, _, rfl⟩
theorem ok_X12_goodOf : OkV mX12_goodOf 3 12 := ⟨⟨gtb_in (tb_8 (List.mem_of_getElem? (i := 103) (by rfl))) rfl, gtb_in (tb_1 (List.mem_of_getElem? (i := 19) (by decide +kernel))) rfl, by decide +kernel, by decide⟩, gtb_in (tb_8 (List.mem_of_getElem? (i := 102) (by decide +kernel))) rfl, gtb_in (List.mem_append_left _ (List.mem_of_getElem? (i := 92) (by decide +kernel))) rfl, _, _, rfl⟩
theorem ok_X12_cover : OkV mX12_cover 1 12 := ⟨⟨gtb_in (tb_8 (List.mem_of_getElem? (i := 107) (by rfl))) rfl, gtb_in (tb_1 (List.mem_of_getElem? (i := 19) (by decide +kernel))) rfl, by decide +kernel, by decide⟩, gtb_in (tb_8 (List.mem_of_getElem? (i := 105) (by decide +kernel))) rfl, gtb_in (tb_8 (List.mem_of_getElem? (i := 106) (by decide +kernel))) rfl, _, _, rfl⟩
theorem ok_X12_layCould : OkV mX12_layCould 0 12 := ⟨⟨gtb_in (tb_8 (List.mem_of_getElem? (i := 111) (by rfl))) rfl, gtb_in (tb_1 (List.mem_of_getElem? (i := 19) (by decide +kernel))) rfl, by decide +kernel, by decide⟩, gtb_in (tb_8 (List.mem_of_getElem? (i := 110) (by decide +kernel))) rfl, gtb_in (List.mem_append_left _ (List.mem_of_getElem? (i := 93) (by decide +kernel))) rfl, _, _, rfl⟩
theorem ok_X12_pilgrim : OkV mX12_pilgrim 1 12 := ⟨⟨gtb_in (tb_8 (List.mem_of_getElem? (i := 115) (by rfl))) rfl, gtb_in (tb_1 (List.mem_of_getElem? (i := 19) (by decide +kernel))) rfl, by decide +kernel, by decide⟩, gtb_in (tb_8 (List.mem_of_getElem? (i := 113) (by decide +kernel))) rfl, gtb_in (tb_8 (List.mem_of_getElem? (i := 114) (by decide +kernel))) rfl, _, _, rfl⟩
theorem ok_X12_will : OkV mX12_will 2 12 := ⟨⟨gtb_in (tb_8 (List.mem_of_getElem? (i := 119) (by rfl))) rfl, gtb_in (tb_1 (List.mem_of_getElem? (i := 19) (by decide +kernel))) rfl, by decide +kernel, by decide⟩, gtb_in (tb_8 (List.mem_of_getElem? (i := 117) (by decide +kernel))) rfl, gtb_in (tb_8 (List.mem_of_getElem? (i := 118) (by decide +kernel))) rfl, _, _, rfl⟩
theorem ok_X12_strength : OkV mX12_strength 2 12 := ⟨⟨gtb_in (tb_8 (List.mem_of_getElem? (i := 123) (by rfl))) rfl, gtb_in (tb_1 (List.mem_of_getElem? (i := 19) (by decide +kernel))) rfl, by decide +kernel, by decide⟩, gtb_in (tb_8 (List.mem_of_getElem? (i := 121) (by decide +kernel))) rfl, gtb_in (tb_8 (List.mem_of_getElem? (i := 122) (by decide +kernel))) rfl, _, _, rfl⟩
theorem ok_X12_saved : OkV mX12_saved 0 12 := ⟨⟨gtb_in (tb_8 (List.mem_of_getElem? (i := 127) (by rfl))) rfl, gtb_in (tb_1 (List.mem_of_getElem? (i := 19) (by decide +kernel))) rfl, by decide +kernel, by decide⟩, gtb_in (tb_8 (List.mem_of_getElem? (i := 125) (by decide +kernel))) rfl, gtb_in (tb_8 (List.mem_of_getElem? (i := 126) (by decide +kernel))) rfl, _, _, rfl⟩
theorem ok_X12_savedOnes : OkV mX12_savedOnes 0 12 := ⟨⟨gtb_in (tb_8 (List.mem_of_getElem? (i := 131) (by rfl))) rfl, gtb_in (tb_1 (List.mem_of_getElem? (i := 19) (by decide +kernel))) rfl, by decide +kernel, by decide⟩, gtb_in (tb_8 (List.mem_of_getElem? (i := 130) (by decide +kernel))) rfl, gtb_in (List.mem_append_left _ (List.mem_of_getElem? (i := 94) (by decide +kernel))) rfl, _, _, rfl⟩
theorem ok_X12_grace : OkV mX12_grace 0 12 := ⟨⟨gtb_in (tb_8 (List.mem_of_getElem? (i := 135) (by rfl))) rfl, gtb_in (tb_1 (List.mem_of_getElem? (i := 19) (by decide +kernel))) rfl, by decide +kernel, by decide⟩, gtb_in (tb_8 (List.mem_of_getElem? (i := 133) (by decide +kernel))) rfl, gtb_in (tb_8 (List.mem_of_getElem? (i := 134) (by decide +kernel))) rfl, _, _, rfl⟩
theorem ok_X12_easiest : OkV mX12_easiest 1 12 := ⟨⟨gtb_in (tb_8 (List.mem_of_getElem? (i := 139) (by rfl))) rfl, gtb_in (tb_1 (List.mem_of_getElem? (i := 19) (by decide +kernel))) rfl, by decide +kernel, by decide⟩, gtb_in (tb_8 (List.mem_of_getElem? (i := 137) (by decide +kernel))) rfl, gtb_in (tb_8 (List.mem_of_getElem? (i := 138) (by decide +kernel))) rfl, _, _, rfl⟩
theorem ok_X12_forlorn : OkV mX12_forlorn 0 12 := ⟨⟨gtb_in (tb_8 (List.mem_of_getElem? (i := 143) (by rfl))) rfl, gtb_in (tb_1 (List.mem_of_getElem? (i := 19) (by decide +kernel))) rfl, by decide +kernel, by decide⟩, gtb_in (tb_8 (List.mem_of_getElem? (i := 141) (by decide +kernel))) rfl, gtb_in (tb_8 (List.mem_of_getElem? (i := 142) (by decide +kernel))) rfl, _, _, rfl⟩
theorem ok_X12_nearest : OkV mX12_nearest 1 12 := ⟨⟨gtb_in (tb_8 (List.mem_of_getElem? (i := 147) (by rfl))) rfl, gtb_in (tb_1 (List.mem_of_getElem? (i := 19) (by decide +kernel))) rfl, by decide +kernel, by decide⟩, gtb_in (tb_8 (List.mem_of_getElem? (i := 145) (by decide +kernel))) rfl, gtb_in (tb_8 (List.mem_of_getElem? (i := 146) (by decide +kernel))) rfl, _, _, rfl⟩
theorem ok_X12_law : OkV mX12_law 1 12 := ⟨⟨gtb_in (tb_8 (List.mem_of_getElem? (i := 151) (by rfl))) rfl, gtb_in (tb_1 (List.mem_of_getElem? (i := 19) (by decide +kernel))) rfl, by decide +kernel, by decide⟩, gtb_in (tb_8 (List.mem_of_getElem? (i := 149) (by decide +kernel))) rfl, gtb_in (tb_8 (List.mem_of_getElem? (i := 150) (by decide +kernel))) rfl, _, _, rfl⟩
theorem ok_X12_schisms : OkV mX12_schisms 0 12 := ⟨⟨gtb_in (tb_8 (List.mem_of_getElem? (i := 155) (by rfl))) rfl, gtb_in (tb_1 (List.mem_of_getElem? (i := 19) (by decide +kernel))) rfl, by decide +kernel, by decide⟩, gtb_in (tb_8 (List.mem_of_getElem? (i := 153) (by decide +kernel))) rfl, gtb_in (tb_8 (List.mem_of_getElem? (i := 154) (by decide +kernel))) rfl, _, _, rfl⟩
theorem ok_X12_odds : OkV mX12_odds 2 12 := ⟨⟨gtb_in (tb_8 (List.mem_of_getElem? (i := 159) (by rfl))) rfl, gtb_in (tb_1 (List.mem_of_getElem? (i := 19) (by decide +kernel))) rfl, by decide +kernel, by decide⟩, gtb_in (tb_8 (List.mem_of_getElem? (i := 157) (by decide +kernel))) rfl, gtb_in (tb_8 (List.mem_of_getElem? (i := 158) (by decide +kernel))) rfl, _, _, rfl⟩
theorem ok_X12_divisor : OkS mX12_divisor 2 := ⟨⟨gtb_in (tb_8 (List.mem_of_getElem? (i := 162) (by rfl))) rfl, gtb_in (tb_1 (List.mem_of_getElem? (i := 19) (by decide +kernel))) rfl, by decide +kernel, by decide⟩, gtb_in (tb_8 (List.mem_of_getElem? (i := 161) (by decide +kernel))) rfl⟩
theorem ok_X12_lies : OkV mX12_lies 1 12 := ⟨⟨gtb_in (tb_8 (List.mem_of_getElem? (i := 166) (by rfl))) rfl, gtb_in (tb_1 (List.mem_of_getElem? (i := 19) (by decide +kernel))) rfl, by decide +kernel, by decide⟩, gtb_in (tb_8 (List.mem_of_getElem? (i := 164) (by decide +kernel))) rfl, gtb_in (tb_8 (List.mem_of_getElem? (i := 165) (by decide +kernel))) rfl, _, _, rfl⟩
theorem ok_X12_dented : OkV mX12_dented 3 12 := ⟨⟨gtb_in (tb_8 (List.mem_of_getElem? (i := 170) (by rfl))) rfl, gtb_in (tb_1 (List.mem_of_getElem? (i := 19) (by decide +kernel))) rfl, by decide +kernel, by decide⟩, gtb_in (tb_8 (List.mem_of_getElem? (i := 168) (by decide +kernel))) rfl, gtb_in (tb_8 (List.mem_of_getElem? (i := 169) (by decide +kernel))) rfl, _, _, rfl⟩
theorem ok_X12_mark : OkV mX12_mark 4 12 := ⟨⟨gtb_in (tb_8 (List.mem_of_getElem? (i := 174) (by rfl))) rfl, gtb_in (tb_1 (List.mem_of_getElem? (i := 19) (by decide +kernel))) rfl, by decide +kernel, by decide⟩, gtb_in (tb_8 (List.mem_of_getElem? (i := 173) (by decide +kernel))) rfl, gtb_in (List.mem_append_left _ (List.mem_of_getElem? (i := 95) (by decide +kernel))) rfl, _, _, rfl⟩
theorem ok_X12_held : OkV mX12_held 3 12 := ⟨⟨gtb_in (tb_8 (List.mem_of_getElem? (i := 178) (by rfl))) rfl, gtb_in (tb_1 (List.mem_of_getElem? (i := 19) (by decide +kernel))) rfl, by decide +kernel, by decide⟩, gtb_in (tb_8 (List.mem_of_getElem? (i := 176) (by decide +kernel))) rfl, gtb_in (tb_8 (List.mem_of_getElem? (i := 177) (by decide +kernel))) rfl, _, _, rfl⟩
theorem ok_X12_untell : OkV mX12_untell 1 12 := ⟨⟨gtb_in (tb_8 (List.mem_of_getElem? (i := 182) (by rfl))) rfl, gtb_in (tb_1 (List.mem_of_getElem? (i := 19) (by decide +kernel))) rfl, by decide +kernel, by decide⟩, gtb_in (tb_8 (List.mem_of_getElem? (i := 180) (by decide +kernel))) rfl, gtb_in (tb_8 (List.mem_of_getElem? (i := 181) (by decide +kernel))) rfl, _, _, rfl⟩
theorem ok_X12_later : OkV mX12_later 1 12 := ⟨⟨gtb_in (tb_8 (List.mem_of_getElem? (i := 186) (by rfl))) rfl, gtb_in (tb_1 (List.mem_of_getElem? (i := 19) (by decide +kernel))) rfl, by decide +kernel, by decide⟩, gtb_in (tb_8 (List.mem_of_getElem? (i := 184) (by decide +kernel))) rfl, gtb_in (tb_8 (List.mem_of_getElem? (i := 185) (by decide +kernel))) rfl, _, _, rfl⟩
theorem ok_X12_rows : OkV mX12_rows 1 12 := ⟨⟨gtb_in (tb_8 (List.mem_of_getElem? (i := 191) (by rfl))) rfl, gtb_in (tb_1 (List.mem_of_getElem? (i := 19) (by decide +kernel))) rfl, by decide +kernel, by decide⟩, gtb_in (tb_8 (List.mem_of_getElem? (i := 189) (by decide +kernel))) rfl, gtb_in (tb_8 (List.mem_of_getElem? (i := 190) (by decide +kernel))) rfl, _, _, rfl⟩
theorem ok_X12_layRows : OkV mX12_layRows 1 12 := ⟨⟨gtb_in (tb_8 (List.mem_of_getElem? (i := 195) (by rfl))) rfl, gtb_in (tb_1 (List.mem_of_getElem? (i := 19) (by decide +kernel))) rfl, by decide +kernel, by decide⟩, gtb_in (tb_8 (List.mem_of_getElem? (i := 194) (by decide +kernel))) rfl, gtb_in (List.mem_append_left _ (List.mem_of_getElem? (i := 96) (by decide +kernel))) rfl, _, _, rfl⟩
theorem ok_X12_isSo : OkV mX12_isSo 1 12 := ⟨⟨gtb_in (tb_8 (List.mem_of_getElem? (i := 199) (by rfl))) rfl, gtb_in (tb_1 (List.mem_of_getElem? (i := 19) (by decide +kernel))) rfl, by decide +kernel, by decide⟩, gtb_in (tb_8 (List.mem_of_getElem? (i := 198) (by decide +kernel))) rfl, gtb_in (List.mem_append_left _ (List.mem_of_getElem? (i := 97) (by decide +kernel))) rfl, _, _, rfl⟩
theorem ok_X12_sure : OkV mX12_sure 2 12 := ⟨⟨gtb_in (tb_8 (List.mem_of_getElem? (i := 203) (by rfl))) rfl, gtb_in (tb_1 (List.mem_of_getElem? (i := 19) (by decide +kernel))) rfl, by decide +kernel, by decide⟩, gtb_in (tb_8 (List.mem_of_getElem? (i := 201) (by decide +kernel))) rfl, gtb_in (tb_8 (List.mem_of_getElem? (i := 202) (by decide +kernel))) rfl, _, _, rfl⟩
theorem ok_X12_ask : OkV mX12_ask 2 12 := ⟨⟨gtb_in (tb_8 (List.mem_of_getElem? (i := 207) (by rfl))) rfl, gtb_in (tb_1 (List.mem_of_getElem? (i := 19) (by decide +kernel))) rfl, by decide +kernel, by decide⟩, gtb_in (tb_8 (List.mem_of_getElem? (i := 205) (by decide +kernel))) rfl, gtb_in (tb_8 (List.mem_of_getElem? (i := 206) (by decide +kernel))) rfl, _, _, rfl⟩
theorem ok_X12_leftBy : OkV mX12_leftBy 1 12 := ⟨⟨gtb_in (tb_8 (List.mem_of_getElem? (i := 211) (by rfl))) rfl, gtb_in (tb_1 (List.mem_of_getElem? (i := 19) (by decide +kernel))) rfl, by decide +kernel, by decide⟩, gtb_in (tb_8 (List.mem_of_getElem? (i := 210) (by decide +kernel))) rfl, gtb_in (List.mem_append_left _ (List.mem_of_getElem? (i := 98) (by decide +kernel))) rfl, _, _, rfl⟩
theorem ok_X12_image : OkV mX12_image 1 12 := ⟨⟨gtb_in (tb_8 (List.mem_of_getElem? (i := 215) (by rfl))) rfl, gtb_in (tb_1 (List.mem_of_getElem? (i := 19) (by decide +kernel))) rfl, by decide +kernel, by decide⟩, gtb_in (tb_8 (List.mem_of_getElem? (i := 213) (by decide +kernel))) rfl, gtb_in (tb_8 (List.mem_of_getElem? (i := 214) (by decide +kernel))) rfl, _, _, rfl⟩
theorem ok_X12_isBox : OkS mX12_isBox 1 := ⟨⟨gtb_in (tb_8 (List.mem_of_getElem? (i := 218) (by rfl))) rfl, gtb_in (tb_1 (List.mem_of_getElem? (i := 19) (by decide +kernel))) rfl, by decide +kernel, by decide⟩, gtb_in (tb_8 (List.mem_of_getElem? (i := 217) (by decide +kernel))) rfl⟩
theorem ok_X12_back : OkV mX12_back 1 12 := ⟨⟨gtb_in (tb_8 (List.mem_of_getElem? (i := 222) (by rfl))) rfl, gtb_in (tb_1 (List.mem_of_getElem? (i := 19) (by decide +kernel))) rfl, by decide +kernel, by decide⟩, gtb_in (tb_8 (List.mem_of_getElem? (i := 220) (by decide +kernel))) rfl, gtb_in (tb_8 (List.mem_of_getElem? (i := 221) (by decide +kernel))) rfl, _, _, rfl⟩
theorem ok_X12_about : OkV mX12_about 1 12 := ⟨⟨gtb_in (tb_8 (List.mem_of_getElem? (i := 226) (by rfl))) rfl, gtb_in (tb_1 (List.mem_of_getElem? (i := 19) (by decide +kernel))) rfl, by decide +kernel, by decide⟩, gtb_in (tb_8 (List.mem_of_getElem? (i := 224) (by decide +kernel))) rfl, gtb_in (tb_8 (List.mem_of_getElem? (i := 225) (by decide +kernel))) rfl, _, _, rfl⟩
