theorem eg_t0 {w : Cond} {i : Nat} (h : (k2_sels lw_privs)[i]? = some w) (hg : goodWord w = true := by rfl) : w ∈ eg_T := List.mem_filter.mpr ⟨List.mem_append_left _ (List.mem_of_getElem? h), hg⟩
theorem eg_t1 {w : Cond} {i : Nat} (h : tables_1_1[i]? = some w) (hg : goodWord w = true) : w ∈ eg_T := List.mem_filter.mpr ⟨List.mem_append_right _ (List.mem_append_left _ (List.mem_of_getElem? h)), hg⟩
theorem eg_t2 {w : Cond} {i : Nat} (h : tables_1_2[i]? = some w) (hg : goodWord w = true) : w ∈ eg_T := List.mem_filter.mpr ⟨List.mem_append_right _ (List.mem_append_right _ (List.mem_append_left _ (List.mem_of_getElem? h))), hg⟩
theorem eg_t3 {w : Cond} {i : Nat} (h : tables_1_3[i]? = some w) (hg : goodWord w = true) : w ∈ eg_T := List.mem_filter.mpr ⟨List.mem_append_right _ (List.mem_append_right _ (List.mem_append_right _ (List.mem_append_left _ (List.mem_of_getElem? h)))), hg⟩
theorem eg_t4 {w : Cond} {i : Nat} (h : tables_1_4[i]? = some w) (hg : goodWord w = true) : w ∈ eg_T := List.mem_filter.mpr ⟨List.mem_append_right _ (List.mem_append_right _ (List.mem_append_right _ (List.mem_append_right _ (List.mem_append_left _ (List.mem_of_getElem? h))))), hg⟩
theorem eg_t5 {w : Cond} {i : Nat} (h : tables_1_5[i]? = some w) (hg : goodWord w = true) : w ∈ eg_T := List.mem_filter.mpr ⟨List.mem_append_right _ (List.mem_append_right _ (List.mem_append_right _ (List.mem_append_right _ (List.mem_append_right _ (List.mem_append_left _ (List.mem_of_getElem? h)))))), hg⟩
theorem eg_t6 {w : Cond} {i : Nat} (h : tables_1_6[i]? = some w) (hg : goodWord w = true) : w ∈ eg_T := List.mem_filter.mpr ⟨List.mem_append_right _ (List.mem_append_right _ (List.mem_append_right _ (List.mem_append_right _ (List.mem_append_right _ (List.mem_append_right _ (List.mem_append_left _ (List.mem_of_getElem? h))))))), hg⟩
theorem eg_t7 {w : Cond} {i : Nat} (h : tables_1_7[i]? = some w) (hg : goodWord w = true) : w ∈ eg_T := List.mem_filter.mpr ⟨List.mem_append_right _ (List.mem_append_right _ (List.mem_append_right _ (List.mem_append_right _ (List.mem_append_right _ (List.mem_append_right _ (List.mem_append_right _ (List.mem_append_left _ (List.mem_of_getElem? h)))))))), hg⟩
theorem eg_t8 {w : Cond} {i : Nat} (h : tables_1_8[i]? = some w) (hg : goodWord w = true) : w ∈ eg_T := List.mem_filter.mpr ⟨List.mem_append_right _ (List.mem_append_right _ (List.mem_append_right _ (List.mem_append_right _ (List.mem_append_right _ (List.mem_append_right _ (List.mem_append_right _ (List.mem_append_right _ (List.mem_append_left _ (List.mem_of_getElem? h))))))))), hg⟩
theorem eg_t9 {w : Cond} {i : Nat} (h : tables_1_9[i]? = some w) (hg : goodWord w = true) : w ∈ eg_T := List.mem_filter.mpr ⟨List.mem_append_right _ (List.mem_append_right _ (List.mem_append_right _ (List.mem_append_right _ (List.mem_append_right _ (List.mem_append_right _ (List.mem_append_right _ (List.mem_append_right _ (List.mem_append_right _ (List.mem_of_getElem? h))))))))), hg⟩
def mtX0_init : eg_M := (yX0_init, cX0_init, 1, none)
def mtX0_clear : eg_M := (yX0_clear, cX0_clear, 2, none)
def mtX0_copyFrom : eg_M := (yX0_copyFrom, cX0_copyFrom, 2, none)
def mtX1_init : eg_M := (yX1_init, cX1_init, 1, none)
def mtX1_clear : eg_M := (yX1_clear, cX1_clear, 1, none)
def mtX1_copyFrom : eg_M := (yX1_copyFrom, cX1_copyFrom, 2, none)
def mtX2_init : eg_M := (yX2_init, cX2_init, 1, none)
def mtX2_begin : eg_M := (yX2_begin, cX2_begin, 2, none)
def mtX2_clearPlate : eg_M := (yX2_clearPlate, cX2_clearPlate, 2, none)
def mtX2_copyFrom : eg_M := (yX2_copyFrom, cX2_copyFrom, 2, none)
def mtX2_wantsLeft : eg_M := (yX2_wantsLeft, cX2_wantsLeft, 3, (some FieldType.int))
def mtX2_goWithout : eg_M := (yX2_goWithout, cX2_goWithout, 2, none)
def mtX3_init : eg_M := (yX3_init, cX3_init, 1, none)
def mtX3_clear : eg_M := (yX3_clear, cX3_clear, 1, none)
def mtX3_copyFrom : eg_M := (yX3_copyFrom, cX3_copyFrom, 2, none)
def mtX3_addKnot : eg_M := (yX3_addKnot, cX3_addKnot, 2, none)
def mtX3_addLaw : eg_M := (yX3_addLaw, cX3_addLaw, 2, (some FieldType.int))
def mtX3_setName : eg_M := (yX3_setName, cX3_setName, 4, none)
def mtX3_value : eg_M := (yX3_value, cX3_value, 6, (some FieldType.long))
def mtX3_combined : eg_M := (yX3_combined, cX3_combined, 7, (some FieldType.long))
def mtX4_init : eg_M := (yX4_init, cX4_init, 1, none)
def mtX4_begin : eg_M := (yX4_begin, cX4_begin, 2, none)
def mtX4_copyFrom : eg_M := (yX4_copyFrom, cX4_copyFrom, 2, none)
def mtX4_addPan : eg_M := (yX4_addPan, cX4_addPan, 2, none)
def mtX5_init : eg_M := (yX5_init, cX5_init, 2, none)
def mtX5_clear : eg_M := (yX5_clear, cX5_clear, 2, none)
def mtX5_copyFrom : eg_M := (yX5_copyFrom, cX5_copyFrom, 3, none)
def mtX5_stationOf : eg_M := (yX5_stationOf, cX5_stationOf, 3, (some FieldType.int))
def mtX5_guestOf : eg_M := (yX5_guestOf, cX5_guestOf, 3, (some FieldType.int))
def mtX5_mayOf : eg_M := (yX5_mayOf, cX5_mayOf, 3, (some FieldType.int))
def mtX5_hasStation : eg_M := (yX5_hasStation, cX5_hasStation, 2, (some FieldType.boolean))
def mtX5_hasGuest : eg_M := (yX5_hasGuest, cX5_hasGuest, 2, (some FieldType.boolean))
def mtX5_hasPan : eg_M := (yX5_hasPan, cX5_hasPan, 2, (some FieldType.boolean))
def mtX6_init : eg_M := (yX6_init, cX6_init, 2, none)
def mtX6_begin : eg_M := (yX6_begin, cX6_begin, 3, none)
def mtX6_atEnd : eg_M := (yX6_atEnd, cX6_atEnd, 1, (some FieldType.boolean))
def mtX6_refuse : eg_M := (yX6_refuse, cX6_refuse, 2, (some FieldType.boolean))
def mtX6_endLine : eg_M := (yX6_endLine, cX6_endLine, 1, none)
def mtX6_readLine : eg_M := (yX6_readLine, cX6_readLine, 1, (some FieldType.boolean))
def mtX6_readNumber : eg_M := (yX6_readNumber, cX6_readNumber, 3, (some FieldType.boolean))
def mtX6_readNewName : eg_M := (yX6_readNewName, cX6_readNewName, 3, (some FieldType.boolean))
def mtX6_readStation : eg_M := (yX6_readStation, cX6_readStation, 2, (some FieldType.boolean))
def mtX6_readGuest : eg_M := (yX6_readGuest, cX6_readGuest, 4, (some FieldType.boolean))
def mtX6_wantedStation : eg_M := (yX6_wantedStation, cX6_wantedStation, 3, (some FieldType.int))
def mtX6_readPass : eg_M := (yX6_readPass, cX6_readPass, 1, (some FieldType.boolean))
def mtX6_readAgain : eg_M := (yX6_readAgain, cX6_readAgain, 1, (some FieldType.boolean))
def mtX6_readClose : eg_M := (yX6_readClose, cX6_readClose, 1, (some FieldType.boolean))
def mtX6_readLaw : eg_M := (yX6_readLaw, cX6_readLaw, 3, (some FieldType.boolean))
def mtX6_readMay : eg_M := (yX6_readMay, cX6_readMay, 3, (some FieldType.boolean))
def mtX6_readExpression : eg_M := (yX6_readExpression, cX6_readExpression, 2, (some FieldType.boolean))
def mtX6_readValue : eg_M := (yX6_readValue, cX6_readValue, 2, (some FieldType.boolean))
def mtX6_readBehindValue : eg_M := (yX6_readBehindValue, cX6_readBehindValue, 4, (some FieldType.boolean))
def mtX6_countKnot : eg_M := (yX6_countKnot, cX6_countKnot, 1, (some FieldType.boolean))
def mtX6_holdSign : eg_M := (yX6_holdSign, cX6_holdSign, 2, none)
def mtX6_releaseSigns : eg_M := (yX6_releaseSigns, cX6_releaseSigns, 2, none)
def mtX6_rankOf : eg_M := (yX6_rankOf, cX6_rankOf, 1, (some FieldType.int))
def mtX7_init : eg_M := (yX7_init, cX7_init, 3, none)
def mtX7_begin : eg_M := (yX7_begin, cX7_begin, 4, none)
def mtX7_copyFrom : eg_M := (yX7_copyFrom, cX7_copyFrom, 3, none)
def mtX7_go : eg_M := (yX7_go, cX7_go, 4, none)
def mtX7_calmSeconds : eg_M := (yX7_calmSeconds, cX7_calmSeconds, 6, (some FieldType.int))
def mtX7_repeatCalm : eg_M := (yX7_repeatCalm, cX7_repeatCalm, 4, none)
def mtX7_fillPans : eg_M := (yX7_fillPans, cX7_fillPans, 3, none)
def mtX7_admitGuests : eg_M := (yX7_admitGuests, cX7_admitGuests, 5, none)
def mtX7_walkAll : eg_M := (yX7_walkAll, cX7_walkAll, 4, none)
def mtX7_walk : eg_M := (yX7_walk, cX7_walk, 6, (some FieldType.boolean))
def mtX7_nextPlace : eg_M := (yX7_nextPlace, cX7_nextPlace, 3, (some FieldType.int))
def mtX7_takersAt : eg_M := (yX7_takersAt, cX7_takersAt, 5, (some FieldType.int))
def mtX7_take : eg_M := (yX7_take, cX7_take, 9, none)
def mtX7_leavesOut : eg_M := (yX7_leavesOut, cX7_leavesOut, 5, (some FieldType.boolean))
def mtX7_leaveLine : eg_M := (yX7_leaveLine, cX7_leaveLine, 8, none)
def mtX7_stepOut : eg_M := (yX7_stepOut, cX7_stepOut, 4, none)
def mtX7_describe : eg_M := (yX7_describe, cX7_describe, 8, none)
def mtX7_takeOn : eg_M := (yX7_takeOn, cX7_takeOn, 3, none)
def mtX7_orderPans : eg_M := (yX7_orderPans, cX7_orderPans, 4, none)
def mtX7_perform : eg_M := (yX7_perform, cX7_perform, 5, none)
def mtX7_sendAway : eg_M := (yX7_sendAway, cX7_sendAway, 4, none)
def mtX7_placeOf : eg_M := (yX7_placeOf, cX7_placeOf, 3, (some FieldType.int))
def mtX7_waitedByAll : eg_M := (yX7_waitedByAll, cX7_waitedByAll, 3, (some FieldType.int))
def mtX7_takenInAll : eg_M := (yX7_takenInAll, cX7_takenInAll, 3, (some FieldType.int))
def mtX7_leftInAll : eg_M := (yX7_leftInAll, cX7_leftInAll, 3, (some FieldType.int))
def mtX7_cameAgain : eg_M := (yX7_cameAgain, cX7_cameAgain, 3, (some FieldType.int))
def mtX7_portionsInAll : eg_M := (yX7_portionsInAll, cX7_portionsInAll, 3, (some FieldType.int))
def mtX8_init : eg_M := (yX8_init, cX8_init, 1, none)
def mtX8_clear : eg_M := (yX8_clear, cX8_clear, 1, none)
def mtX8_add : eg_M := (yX8_add, cX8_add, 5, (some FieldType.int))
def mtX8_knownCounts : eg_M := (yX8_knownCounts, cX8_knownCounts, 1, (some FieldType.int))
def mtX8_markHolding : eg_M := (yX8_markHolding, cX8_markHolding, 4, none)
def mtX8_nextSecond : eg_M := (yX8_nextSecond, cX8_nextSecond, 5, (some FieldType.int))
def mtX8_agrees : eg_M := (yX8_agrees, cX8_agrees, 5, (some FieldType.boolean))
def mtX9_init : eg_M := (yX9_init, cX9_init, 2, none)
def mtX9_begin : eg_M := (yX9_begin, cX9_begin, 2, none)
def mtX9_advance : eg_M := (yX9_advance, cX9_advance, 2, none)
def mtX9_readWord : eg_M := (yX9_readWord, cX9_readWord, 4, none)
def mtX9_wordOfLanguage : eg_M := (yX9_wordOfLanguage, cX9_wordOfLanguage, 6, (some FieldType.int))
def mtX9_readNumber : eg_M := (yX9_readNumber, cX9_readNumber, 3, none)
def mtX9_readSign : eg_M := (yX9_readSign, cX9_readSign, 2, none)
def mtX10_init : eg_M := (yX10_init, cX10_init, 1, none)
def mtX10_feed : eg_M := (yX10_feed, cX10_feed, 6, (some FieldType.int))
def mtX10_feedNumber : eg_M := (yX10_feedNumber, cX10_feedNumber, 3, none)
def mtX10_text : eg_M := (yX10_text, cX10_text, 3, (some FieldType.int))
def mtX10_fault : eg_M := (yX10_fault, cX10_fault, 2, (some FieldType.int))
def mtX10_named : eg_M := (yX10_named, cX10_named, 3, (some FieldType.int))
def mtX10_look : eg_M := (yX10_look, cX10_look, 4, (some FieldType.int))
def mtX10_station : eg_M := (yX10_station, cX10_station, 4, (some FieldType.int))
def mtX10_row : eg_M := (yX10_row, cX10_row, 2, (some FieldType.int))
def mtX10_line : eg_M := (yX10_line, cX10_line, 2, (some FieldType.int))
def mtX10_seconds : eg_M := (yX10_seconds, cX10_seconds, 2, (some FieldType.int))
def mtX10_put : eg_M := (yX10_put, cX10_put, 2, (some FieldType.int))
def mtX10_change : eg_M := (yX10_change, cX10_change, 3, (some FieldType.boolean))
def mtX10_send : eg_M := (yX10_send, cX10_send, 2, (some FieldType.boolean))
def mtX10_undo : eg_M := (yX10_undo, cX10_undo, 2, (some FieldType.int))
def mtX10_doByHand : eg_M := (yX10_doByHand, cX10_doByHand, 5, none)
def mtX10_performAgain : eg_M := (yX10_performAgain, cX10_performAgain, 4, none)
def mtX10_waited : eg_M := (yX10_waited, cX10_waited, 2, (some FieldType.int))
def mtX10_isLength : eg_M := (yX10_isLength, cX10_isLength, 1, (some FieldType.boolean))
def mtX10_waitedBy : eg_M := (yX10_waitedBy, cX10_waitedBy, 3, (some FieldType.int))
def mtX10_slow : eg_M := (yX10_slow, cX10_slow, 4, (some FieldType.int))
def mtX10_many : eg_M := (yX10_many, cX10_many, 5, (some FieldType.int))
def mtX10_best : eg_M := (yX10_best, cX10_best, 7, (some FieldType.int))
def mtX10_orderByNumbers : eg_M := (yX10_orderByNumbers, cX10_orderByNumbers, 2, none)
def mtX10_nextOrder : eg_M := (yX10_nextOrder, cX10_nextOrder, 6, (some FieldType.boolean))
def mtX10_swapInOrder : eg_M := (yX10_swapInOrder, cX10_swapInOrder, 4, none)
def mtX10_seen : eg_M := (yX10_seen, cX10_seen, 4, (some FieldType.int))
def mtX10_takenAt : eg_M := (yX10_takenAt, cX10_takenAt, 6, (some FieldType.int))
def mtX10_plates : eg_M := (yX10_plates, cX10_plates, 5, (some FieldType.int))
def mtX10_worth : eg_M := (yX10_worth, cX10_worth, 3, (some FieldType.int))
def mtX10_fill : eg_M := (yX10_fill, cX10_fill, 6, (some FieldType.int))
def mtX10_rule : eg_M := (yX10_rule, cX10_rule, 6, (some FieldType.int))
def mtX10_canWeigh : eg_M := (yX10_canWeigh, cX10_canWeigh, 7, (some FieldType.boolean))
def mtX10_cheapest : eg_M := (yX10_cheapest, cX10_cheapest, 14, (some FieldType.int))
def mtX10_bus : eg_M := (yX10_bus, cX10_bus, 9, (some FieldType.int))
def mtX10_chance : eg_M := (yX10_chance, cX10_chance, 12, (some FieldType.int))
def mtX10_law : eg_M := (yX10_law, cX10_law, 8, (some FieldType.long))
def mtX10_isNamed : eg_M := (yX10_isNamed, cX10_isNamed, 1, (some FieldType.boolean))
def mtX10_count : eg_M := (yX10_count, cX10_count, 6, (some FieldType.int))
def mtX10_strike : eg_M := (yX10_strike, cX10_strike, 2, (some FieldType.int))
def mtX10_known : eg_M := (yX10_known, cX10_known, 2, (some FieldType.boolean))
def mtX10_fits : eg_M := (yX10_fits, cX10_fits, 3, (some FieldType.int))
def mtX10_fitsSpare : eg_M := (yX10_fitsSpare, cX10_fitsSpare, 3, (some FieldType.boolean))
def mtX10_keep : eg_M := (yX10_keep, cX10_keep, 1, (some FieldType.int))
def mtX10_back : eg_M := (yX10_back, cX10_back, 1, (some FieldType.int))
def mtX10_all : eg_M := (yX10_all, cX10_all, 2, (some FieldType.int))
def mtX11_init : eg_M := (yX11_init, cX11_init, 1, none)
def mtX11_thrown : eg_M := (yX11_thrown, cX11_thrown, 1, (some FieldType.int))
def mtX11_feed : eg_M := (yX11_feed, cX11_feed, 8, (some FieldType.int))
def mtX11_isIn : eg_M := (yX11_isIn, cX11_isIn, 3, (some FieldType.boolean))
def mtX11_wrong : eg_M := (yX11_wrong, cX11_wrong, 2, (some FieldType.boolean))
def mtX11_wordAt : eg_M := (yX11_wordAt, cX11_wordAt, 8, (some FieldType.int))
def mtX11_isSmall : eg_M := (yX11_isSmall, cX11_isSmall, 2, (some FieldType.boolean))
def mtX11_isDigit : eg_M := (yX11_isDigit, cX11_isDigit, 2, (some FieldType.boolean))
def mtX11_token : eg_M := (yX11_token, cX11_token, 1, none)
def mtX11_signToken : eg_M := (yX11_signToken, cX11_signToken, 4, none)
def mtX11_packed : eg_M := (yX11_packed, cX11_packed, 5, (some FieldType.int))
def mtX11_isKey : eg_M := (yX11_isKey, cX11_isKey, 2, (some FieldType.boolean))
def mtX11_isSign : eg_M := (yX11_isSign, cX11_isSign, 2, (some FieldType.boolean))
def mtX11_number : eg_M := (yX11_number, cX11_number, 3, (some FieldType.boolean))
def mtX11_plain : eg_M := (yX11_plain, cX11_plain, 2, none)
def mtX11_copies : eg_M := (yX11_copies, cX11_copies, 3, none)
def mtX11_keepText : eg_M := (yX11_keepText, cX11_keepText, 3, none)
def mtX11_find : eg_M := (yX11_find, cX11_find, 5, (some FieldType.int))
def mtX11_newName : eg_M := (yX11_newName, cX11_newName, 4, (some FieldType.boolean))
def mtX11_stationLine : eg_M := (yX11_stationLine, cX11_stationLine, 2, (some FieldType.boolean))
def mtX11_guestLine : eg_M := (yX11_guestLine, cX11_guestLine, 3, (some FieldType.boolean))
def mtX11_lawKind : eg_M := (yX11_lawKind, cX11_lawKind, 1, (some FieldType.int))
def mtX11_sumInto : eg_M := (yX11_sumInto, cX11_sumInto, 3, (some FieldType.boolean))
def mtX11_lawLine : eg_M := (yX11_lawLine, cX11_lawLine, 2, (some FieldType.boolean))
def mtX11_mayLine : eg_M := (yX11_mayLine, cX11_mayLine, 2, (some FieldType.boolean))
def mtX11_lineRead : eg_M := (yX11_lineRead, cX11_lineRead, 2, (some FieldType.boolean))
def mtX11_text : eg_M := (yX11_text, cX11_text, 3, (some FieldType.int))
def mtX11_fault : eg_M := (yX11_fault, cX11_fault, 2, (some FieldType.int))
def mtX11_named : eg_M := (yX11_named, cX11_named, 3, (some FieldType.int))
def mtX11_rank : eg_M := (yX11_rank, cX11_rank, 1, (some FieldType.int))
def mtX11_grown : eg_M := (yX11_grown, cX11_grown, 4, none)
def mtX11_dropHeld : eg_M := (yX11_dropHeld, cX11_dropHeld, 1, (some FieldType.int))
def mtX11_bind : eg_M := (yX11_bind, cX11_bind, 5, none)
def mtX11_isCounted : eg_M := (yX11_isCounted, cX11_isCounted, 1, (some FieldType.boolean))
def mtX11_waitsFor : eg_M := (yX11_waitsFor, cX11_waitsFor, 2, none)
def mtX11_leafRead : eg_M := (yX11_leafRead, cX11_leafRead, 2, (some FieldType.boolean))
def mtX11_signs : eg_M := (yX11_signs, cX11_signs, 2, (some FieldType.boolean))
def mtX11_sumRead : eg_M := (yX11_sumRead, cX11_sumRead, 1, (some FieldType.boolean))
def mtX11_lays : eg_M := (yX11_lays, cX11_lays, 3, none)
def mtX11_clears : eg_M := (yX11_clears, cX11_clears, 2, none)
def mtX11_has : eg_M := (yX11_has, cX11_has, 3, (some FieldType.int))
def mtX11_portionsOf : eg_M := (yX11_portionsOf, cX11_portionsOf, 2, (some FieldType.int))
def mtX11_sizeOf : eg_M := (yX11_sizeOf, cX11_sizeOf, 2, (some FieldType.int))
def mtX11_everybody : eg_M := (yX11_everybody, cX11_everybody, 1, (some FieldType.int))
def mtX11_at : eg_M := (yX11_at, cX11_at, 1, (some FieldType.int))
def mtX11_pan : eg_M := (yX11_pan, cX11_pan, 1, (some FieldType.int))
def mtX11_begins : eg_M := (yX11_begins, cX11_begins, 5, none)
def mtX11_bounded : eg_M := (yX11_bounded, cX11_bounded, 3, (some FieldType.long))
def mtX11_compares : eg_M := (yX11_compares, cX11_compares, 5, (some FieldType.boolean))
def mtX11_times : eg_M := (yX11_times, cX11_times, 6, (some FieldType.long))
def mtX11_valueOf : eg_M := (yX11_valueOf, cX11_valueOf, 6, (some FieldType.long))
def mtX11_sumOf : eg_M := (yX11_sumOf, cX11_sumOf, 3, (some FieldType.long))
def mtX11_lawOf : eg_M := (yX11_lawOf, cX11_lawOf, 6, (some FieldType.long))
def mtX11_plateOf : eg_M := (yX11_plateOf, cX11_plateOf, 2, (some FieldType.int))
def mtX11_layNames : eg_M := (yX11_layNames, cX11_layNames, 8, none)
def mtX11_hasPan : eg_M := (yX11_hasPan, cX11_hasPan, 2, (some FieldType.boolean))
def mtX11_layNamesAt : eg_M := (yX11_layNamesAt, cX11_layNamesAt, 3, none)
def mtX11_wantsOf : eg_M := (yX11_wantsOf, cX11_wantsOf, 4, (some FieldType.int))
def mtX11_outOfLine : eg_M := (yX11_outOfLine, cX11_outOfLine, 3, none)
def mtX11_sits : eg_M := (yX11_sits, cX11_sits, 9, none)
def mtX11_nextOf : eg_M := (yX11_nextOf, cX11_nextOf, 4, (some FieldType.int))
def mtX11_takersAt : eg_M := (yX11_takersAt, cX11_takersAt, 4, (some FieldType.int))
def mtX11_heaps : eg_M := (yX11_heaps, cX11_heaps, 10, none)
def mtX11_goesTo : eg_M := (yX11_goesTo, cX11_goesTo, 5, none)
def mtX11_goes : eg_M := (yX11_goes, cX11_goes, 6, (some FieldType.boolean))
def mtX11_comesNow : eg_M := (yX11_comesNow, cX11_comesNow, 3, none)
def mtX11_pansGo : eg_M := (yX11_pansGo, cX11_pansGo, 4, none)
def mtX11_second : eg_M := (yX11_second, cX11_second, 5, none)
def mtX11_runs : eg_M := (yX11_runs, cX11_runs, 2, none)
def mtX11_waitedOf : eg_M := (yX11_waitedOf, cX11_waitedOf, 4, (some FieldType.int))
def mtX11_isStation : eg_M := (yX11_isStation, cX11_isStation, 2, (some FieldType.boolean))
def mtX11_isGuest : eg_M := (yX11_isGuest, cX11_isGuest, 2, (some FieldType.boolean))
def mtX11_isTime : eg_M := (yX11_isTime, cX11_isTime, 1, (some FieldType.boolean))
def mtX11_isBound : eg_M := (yX11_isBound, cX11_isBound, 1, (some FieldType.boolean))
def mtX11_fails : eg_M := (yX11_fails, cX11_fails, 2, (some FieldType.int))
def mtX11_look : eg_M := (yX11_look, cX11_look, 6, (some FieldType.int))
def mtX11_station : eg_M := (yX11_station, cX11_station, 4, (some FieldType.int))
def mtX11_row : eg_M := (yX11_row, cX11_row, 2, (some FieldType.int))
def mtX11_line : eg_M := (yX11_line, cX11_line, 2, (some FieldType.int))
def mtX11_seconds : eg_M := (yX11_seconds, cX11_seconds, 3, (some FieldType.int))
def mtX11_remembers : eg_M := (yX11_remembers, cX11_remembers, 2, none)
def mtX11_layRow : eg_M := (yX11_layRow, cX11_layRow, 2, none)
def mtX11_put : eg_M := (yX11_put, cX11_put, 2, (some FieldType.int))
def mtX11_change : eg_M := (yX11_change, cX11_change, 4, (some FieldType.boolean))
def mtX11_send : eg_M := (yX11_send, cX11_send, 4, (some FieldType.boolean))
def mtX11_undo : eg_M := (yX11_undo, cX11_undo, 2, (some FieldType.int))
def mtX11_waited : eg_M := (yX11_waited, cX11_waited, 2, (some FieldType.int))
def mtX11_slow : eg_M := (yX11_slow, cX11_slow, 4, (some FieldType.int))
def mtX11_many : eg_M := (yX11_many, cX11_many, 5, (some FieldType.int))
def mtX11_nextOrder : eg_M := (yX11_nextOrder, cX11_nextOrder, 7, (some FieldType.boolean))
def mtX11_best : eg_M := (yX11_best, cX11_best, 7, (some FieldType.int))
def mtX11_takenAt : eg_M := (yX11_takenAt, cX11_takenAt, 6, (some FieldType.int))
def mtX11_seen : eg_M := (yX11_seen, cX11_seen, 4, (some FieldType.int))
def mtX11_sumBy : eg_M := (yX11_sumBy, cX11_sumBy, 4, (some FieldType.int))
def mtX11_plates : eg_M := (yX11_plates, cX11_plates, 6, (some FieldType.int))
def mtX11_worth : eg_M := (yX11_worth, cX11_worth, 3, (some FieldType.int))
def mtX11_isRule : eg_M := (yX11_isRule, cX11_isRule, 6, (some FieldType.boolean))
def mtX11_costAt : eg_M := (yX11_costAt, cX11_costAt, 5, (some FieldType.int))
def mtX11_fill : eg_M := (yX11_fill, cX11_fill, 10, (some FieldType.int))
def mtX11_rule : eg_M := (yX11_rule, cX11_rule, 10, (some FieldType.int))
def mtX11_bus : eg_M := (yX11_bus, cX11_bus, 8, (some FieldType.int))
def mtX11_chance : eg_M := (yX11_chance, cX11_chance, 10, (some FieldType.int))
def mtX11_law : eg_M := (yX11_law, cX11_law, 8, (some FieldType.long))
def mtX11_count : eg_M := (yX11_count, cX11_count, 5, (some FieldType.int))
def mtX11_strike : eg_M := (yX11_strike, cX11_strike, 2, (some FieldType.int))
def mtX11_known : eg_M := (yX11_known, cX11_known, 2, (some FieldType.boolean))
def mtX11_knownMany : eg_M := (yX11_knownMany, cX11_knownMany, 1, (some FieldType.int))
def mtX11_isFit : eg_M := (yX11_isFit, cX11_isFit, 4, (some FieldType.boolean))
def mtX11_fits : eg_M := (yX11_fits, cX11_fits, 4, (some FieldType.int))
def mtX11_keep : eg_M := (yX11_keep, cX11_keep, 1, (some FieldType.int))
def mtX11_back : eg_M := (yX11_back, cX11_back, 1, (some FieldType.int))
def mtX11_truthSum : eg_M := (yX11_truthSum, cX11_truthSum, 4, (some FieldType.int))
def mtX11_all : eg_M := (yX11_all, cX11_all, 4, (some FieldType.int))
theorem fl_10_11 : eg_FL RX10 11 10 0 := ⟨by decide, by decide, (eg_t3 (i := 24) (by decide +kernel) rfl)⟩
theorem fl_10_25 : eg_FL RX10 25 10 2 := ⟨by decide, by decide, (eg_t3 (i := 26) (by decide +kernel) rfl)⟩
theorem fl_10_32 : eg_FL RX10 32 10 3 := ⟨by decide, by decide, (eg_t3 (i := 27) (by decide +kernel) rfl)⟩
theorem fl_10_36 : eg_FL RX10 36 10 4 := ⟨by decide, by decide, (eg_t3 (i := 28) (by decide +kernel) rfl)⟩
theorem fl_10_39 : eg_FL RX10 39 10 10 := ⟨by decide, by decide, (eg_t3 (i := 34) (by decide +kernel) rfl)⟩
theorem fl_10_46 : eg_FL RX10 46 10 12 := ⟨by decide, by decide, (eg_t3 (i := 36) (by decide +kernel) rfl)⟩
theorem fl_10_50 : eg_FL RX10 50 10 13 := ⟨by decide, by decide, (eg_t3 (i := 37) (by decide +kernel) rfl)⟩
theorem fl_10_53 : eg_FL RX10 53 10 14 := ⟨by decide, by decide, (eg_t3 (i := 38) (by decide +kernel) rfl)⟩
theorem fl_10_65 : eg_FL RX10 65 10 5 := ⟨by decide, by decide, (eg_t3 (i := 29) (by decide +kernel) rfl)⟩
theorem fl_10_69 : eg_FL RX10 69 10 6 := ⟨by decide, by decide, (eg_t3 (i := 30) (by decide +kernel) rfl)⟩
theorem fl_10_72 : eg_FL RX10 72 10 7 := ⟨by decide, by decide, (eg_t3 (i := 31) (by decide +kernel) rfl)⟩
theorem fl_10_75 : eg_FL RX10 75 10 9 := ⟨by decide, by decide, (eg_t3 (i := 33) (by decide +kernel) rfl)⟩
theorem fl_10_78 : eg_FL RX10 78 10 1 := ⟨by decide, by decide, (eg_t3 (i := 25) (by decide +kernel) rfl)⟩
theorem fl_10_100 : eg_FL RX10 100 6 2 := ⟨by decide, by decide, (eg_t1 (i := 75) (by decide +kernel) rfl)⟩
theorem fl_10_109 : eg_FL RX10 109 10 8 := ⟨by decide, by decide, (eg_t3 (i := 32) (by decide +kernel) rfl)⟩
theorem fl_10_113 : eg_FL RX10 113 10 11 := ⟨by decide, by decide, (eg_t3 (i := 35) (by decide +kernel) rfl)⟩
theorem fl_10_116 : eg_FL RX10 116 6 4 := ⟨by decide, by decide, (eg_t1 (i := 79) (by decide +kernel) rfl)⟩
theorem fl_10_119 : eg_FL RX10 119 6 3 := ⟨by decide, by decide, (eg_t1 (i := 77) (by decide +kernel) rfl)⟩
theorem fl_10_143 : eg_FL RX10 143 7 4 := ⟨by decide, by decide, (eg_t3 (i := 1) (by decide +kernel) rfl)⟩
theorem fl_10_147 : eg_FL RX10 147 2 0 := ⟨by decide, by decide, (eg_t2 (i := 172) (by decide +kernel) rfl)⟩
theorem fl_10_152 : eg_FL RX10 152 2 1 := ⟨by decide, by decide, (eg_t2 (i := 174) (by decide +kernel) rfl)⟩
theorem fl_10_155 : eg_FL RX10 155 2 2 := ⟨by decide, by decide, (eg_t2 (i := 177) (by decide +kernel) rfl)⟩
theorem fl_10_162 : eg_FL RX10 162 2 4 := ⟨by decide, by decide, (eg_t2 (i := 183) (by decide +kernel) rfl)⟩
theorem fl_10_165 : eg_FL RX10 165 2 7 := ⟨by decide, by decide, (eg_t2 (i := 190) (by decide +kernel) rfl)⟩
theorem fl_10_168 : eg_FL RX10 168 2 8 := ⟨by decide, by decide, (eg_t2 (i := 192) (by decide +kernel) rfl)⟩
theorem fl_10_171 : eg_FL RX10 171 2 9 := ⟨by decide, by decide, (eg_t2 (i := 195) (by decide +kernel) rfl)⟩
theorem fl_10_174 : eg_FL RX10 174 2 10 := ⟨by decide, by decide, (eg_t2 (i := 198) (by decide +kernel) rfl)⟩
theorem fl_10_177 : eg_FL RX10 177 2 11 := ⟨by decide, by decide, (eg_t2 (i := 201) (by decide +kernel) rfl)⟩
theorem fl_10_180 : eg_FL RX10 180 2 12 := ⟨by decide, by decide, (eg_t2 (i := 203) (by decide +kernel) rfl)⟩
theorem fl_10_191 : eg_FL RX10 191 7 3 := ⟨by decide, by decide, (eg_t2 (i := 239) (by decide +kernel) rfl)⟩
theorem fl_10_195 : eg_FL RX10 195 5 1 := ⟨by decide, by decide, (eg_t2 (i := 5) (by decide +kernel) rfl)⟩
theorem fl_10_199 : eg_FL RX10 199 1 1 := ⟨by decide, by decide, (eg_t1 (i := 172) (by decide +kernel) rfl)⟩
theorem fl_10_204 : eg_FL RX10 204 1 2 := ⟨by decide, by decide, (eg_t1 (i := 176) (by decide +kernel) rfl)⟩
theorem fl_10_210 : eg_FL RX10 210 4 0 := ⟨by decide, by decide, (eg_t2 (i := 132) (by decide +kernel) rfl)⟩
theorem fl_10_215 : eg_FL RX10 215 4 1 := ⟨by decide, by decide, (eg_t2 (i := 135) (by decide +kernel) rfl)⟩
theorem fl_10_218 : eg_FL RX10 218 4 2 := ⟨by decide, by decide, (eg_t2 (i := 138) (by decide +kernel) rfl)⟩
theorem fl_10_221 : eg_FL RX10 221 4 3 := ⟨by decide, by decide, (eg_t2 (i := 140) (by decide +kernel) rfl)⟩
theorem fl_10_222 : eg_FL RX10 222 4 4 := ⟨by decide, by decide, (eg_t2 (i := 143) (by decide +kernel) rfl)⟩
theorem fl_10_225 : eg_FL RX10 225 4 5 := ⟨by decide, by decide, (eg_t2 (i := 147) (by decide +kernel) rfl)⟩
theorem fl_10_228 : eg_FL RX10 228 4 6 := ⟨by decide, by decide, (eg_t2 (i := 149) (by decide +kernel) rfl)⟩
theorem fl_10_234 : eg_FL RX10 234 7 2 := ⟨by decide, by decide, (eg_t2 (i := 236) (by decide +kernel) rfl)⟩
theorem fl_10_237 : eg_FL RX10 237 7 6 := ⟨by decide, by decide, (eg_t3 (i := 5) (by decide +kernel) rfl)⟩
theorem fl_10_240 : eg_FL RX10 240 7 5 := ⟨by decide, by decide, (eg_t3 (i := 3) (by decide +kernel) rfl)⟩
theorem fl_10_243 : eg_FL RX10 243 7 1 := ⟨by decide, by decide, (eg_t2 (i := 234) (by decide +kernel) rfl)⟩
theorem fl_10_285 : eg_FL RX10 285 5 3 := ⟨by decide, by decide, (eg_t2 (i := 14) (by decide +kernel) rfl)⟩
theorem fl_10_289 : eg_FL RX10 289 0 1 := ⟨by decide, by decide, (eg_t1 (i := 221) (by decide +kernel) rfl)⟩
theorem fl_10_295 : eg_FL RX10 295 5 0 := ⟨by decide, by decide, (eg_t2 (i := 2) (by decide +kernel) rfl)⟩
theorem fl_10_309 : eg_FL RX10 309 5 2 := ⟨by decide, by decide, (eg_t2 (i := 10) (by decide +kernel) rfl)⟩
theorem fl_10_311 : eg_FL RX10 311 0 2 := ⟨by decide, by decide, (eg_t1 (i := 226) (by decide +kernel) rfl)⟩
theorem fl_10_323 : eg_FL RX10 323 5 4 := ⟨by decide, by decide, (eg_t2 (i := 18) (by decide +kernel) rfl)⟩
theorem fl_10_334 : eg_FL RX10 334 1 5 := ⟨by decide, by decide, (eg_t1 (i := 191) (by decide +kernel) rfl)⟩
theorem fl_10_337 : eg_FL RX10 337 1 3 := ⟨by decide, by decide, (eg_t1 (i := 184) (by decide +kernel) rfl)⟩
theorem fl_10_354 : eg_FL RX10 354 5 12 := ⟨by decide, by decide, (eg_t2 (i := 43) (by decide +kernel) rfl)⟩
theorem fl_10_364 : eg_FL RX10 364 5 11 := ⟨by decide, by decide, (eg_t2 (i := 39) (by decide +kernel) rfl)⟩
theorem fl_10_374 : eg_FL RX10 374 8 0 := ⟨by decide, by decide, (eg_t2 (i := 78) (by decide +kernel) rfl)⟩
theorem fl_10_375 : eg_FL RX10 375 8 1 := ⟨by decide, by decide, (eg_t2 (i := 80) (by decide +kernel) rfl)⟩
theorem fl_10_381 : eg_FL RX10 381 5 7 := ⟨by decide, by decide, (eg_t2 (i := 27) (by decide +kernel) rfl)⟩
theorem fl_10_384 : eg_FL RX10 384 5 9 := ⟨by decide, by decide, (eg_t2 (i := 32) (by decide +kernel) rfl)⟩
theorem fl_10_387 : eg_FL RX10 387 5 10 := ⟨by decide, by decide, (eg_t2 (i := 35) (by decide +kernel) rfl)⟩
theorem fl_10_400 : eg_FL RX10 400 3 3 := ⟨by decide, by decide, (eg_t1 (i := 143) (by decide +kernel) rfl)⟩
theorem fl_0_9 : eg_FL RX0 9 0 3 := ⟨by decide, by decide, (eg_t1 (i := 227) (by decide +kernel) rfl)⟩
theorem fl_0_15 : eg_FL RX0 15 0 0 := ⟨by decide, by decide, (eg_t1 (i := 215) (by decide +kernel) rfl)⟩
theorem fl_0_19 : eg_FL RX0 19 0 1 := ⟨by decide, by decide, (eg_t1 (i := 218) (by decide +kernel) rfl)⟩
theorem fl_0_22 : eg_FL RX0 22 0 2 := ⟨by decide, by decide, (eg_t1 (i := 223) (by decide +kernel) rfl)⟩
theorem fl_1_7 : eg_FL RX1 7 1 3 := ⟨by decide, by decide, (eg_t1 (i := 179) (by decide +kernel) rfl)⟩
theorem fl_1_13 : eg_FL RX1 13 1 4 := ⟨by decide, by decide, (eg_t1 (i := 185) (by decide +kernel) rfl)⟩
theorem fl_1_16 : eg_FL RX1 16 1 5 := ⟨by decide, by decide, (eg_t1 (i := 188) (by decide +kernel) rfl)⟩
theorem fl_1_19 : eg_FL RX1 19 1 6 := ⟨by decide, by decide, (eg_t1 (i := 192) (by decide +kernel) rfl)⟩
theorem fl_1_22 : eg_FL RX1 22 1 0 := ⟨by decide, by decide, (eg_t1 (i := 168) (by decide +kernel) rfl)⟩
theorem fl_1_25 : eg_FL RX1 25 1 1 := ⟨by decide, by decide, (eg_t1 (i := 171) (by decide +kernel) rfl)⟩
theorem fl_1_28 : eg_FL RX1 28 1 2 := ⟨by decide, by decide, (eg_t1 (i := 175) (by decide +kernel) rfl)⟩
theorem fl_2_9 : eg_FL RX2 9 2 3 := ⟨by decide, by decide, (eg_t2 (i := 179) (by decide +kernel) rfl)⟩
theorem fl_2_15 : eg_FL RX2 15 2 0 := ⟨by decide, by decide, (eg_t2 (i := 170) (by decide +kernel) rfl)⟩
theorem fl_2_19 : eg_FL RX2 19 0 3 := ⟨by decide, by decide, (eg_t1 (i := 228) (by decide +kernel) rfl)⟩
theorem fl_2_28 : eg_FL RX2 28 2 6 := ⟨by decide, by decide, (eg_t2 (i := 186) (by decide +kernel) rfl)⟩
theorem fl_2_31 : eg_FL RX2 31 2 7 := ⟨by decide, by decide, (eg_t2 (i := 188) (by decide +kernel) rfl)⟩
theorem fl_2_34 : eg_FL RX2 34 2 8 := ⟨by decide, by decide, (eg_t2 (i := 191) (by decide +kernel) rfl)⟩
theorem fl_2_37 : eg_FL RX2 37 2 9 := ⟨by decide, by decide, (eg_t2 (i := 194) (by decide +kernel) rfl)⟩
theorem fl_2_40 : eg_FL RX2 40 2 10 := ⟨by decide, by decide, (eg_t2 (i := 197) (by decide +kernel) rfl)⟩
theorem fl_2_43 : eg_FL RX2 43 2 11 := ⟨by decide, by decide, (eg_t2 (i := 200) (by decide +kernel) rfl)⟩
theorem fl_2_46 : eg_FL RX2 46 2 12 := ⟨by decide, by decide, (eg_t2 (i := 202) (by decide +kernel) rfl)⟩
theorem fl_2_53 : eg_FL RX2 53 2 1 := ⟨by decide, by decide, (eg_t2 (i := 173) (by decide +kernel) rfl)⟩
theorem fl_2_56 : eg_FL RX2 56 0 2 := ⟨by decide, by decide, (eg_t1 (i := 222) (by decide +kernel) rfl)⟩
theorem fl_2_59 : eg_FL RX2 59 2 2 := ⟨by decide, by decide, (eg_t2 (i := 176) (by decide +kernel) rfl)⟩
theorem fl_2_62 : eg_FL RX2 62 2 4 := ⟨by decide, by decide, (eg_t2 (i := 181) (by decide +kernel) rfl)⟩
theorem fl_2_65 : eg_FL RX2 65 2 5 := ⟨by decide, by decide, (eg_t2 (i := 184) (by decide +kernel) rfl)⟩
theorem fl_3_9 : eg_FL RX3 9 3 0 := ⟨by decide, by decide, (eg_t1 (i := 138) (by decide +kernel) rfl)⟩
theorem fl_3_15 : eg_FL RX3 15 3 1 := ⟨by decide, by decide, (eg_t1 (i := 139) (by decide +kernel) rfl)⟩
theorem fl_3_18 : eg_FL RX3 18 3 2 := ⟨by decide, by decide, (eg_t1 (i := 140) (by decide +kernel) rfl)⟩
theorem fl_3_21 : eg_FL RX3 21 3 5 := ⟨by decide, by decide, (eg_t1 (i := 145) (by decide +kernel) rfl)⟩
theorem fl_3_25 : eg_FL RX3 25 3 6 := ⟨by decide, by decide, (eg_t1 (i := 146) (by decide +kernel) rfl)⟩
theorem fl_3_28 : eg_FL RX3 28 3 3 := ⟨by decide, by decide, (eg_t1 (i := 141) (by decide +kernel) rfl)⟩
theorem fl_3_32 : eg_FL RX3 32 3 4 := ⟨by decide, by decide, (eg_t1 (i := 144) (by decide +kernel) rfl)⟩
theorem fl_4_9 : eg_FL RX4 9 1 3 := ⟨by decide, by decide, (eg_t1 (i := 180) (by decide +kernel) rfl)⟩
theorem fl_4_15 : eg_FL RX4 15 4 0 := ⟨by decide, by decide, (eg_t2 (i := 129) (by decide +kernel) rfl)⟩
theorem fl_4_18 : eg_FL RX4 18 4 1 := ⟨by decide, by decide, (eg_t2 (i := 133) (by decide +kernel) rfl)⟩
theorem fl_4_21 : eg_FL RX4 21 4 2 := ⟨by decide, by decide, (eg_t2 (i := 136) (by decide +kernel) rfl)⟩
theorem fl_4_24 : eg_FL RX4 24 4 3 := ⟨by decide, by decide, (eg_t2 (i := 139) (by decide +kernel) rfl)⟩
theorem fl_4_27 : eg_FL RX4 27 4 4 := ⟨by decide, by decide, (eg_t2 (i := 142) (by decide +kernel) rfl)⟩
theorem fl_4_30 : eg_FL RX4 30 4 5 := ⟨by decide, by decide, (eg_t2 (i := 145) (by decide +kernel) rfl)⟩
theorem fl_4_33 : eg_FL RX4 33 4 6 := ⟨by decide, by decide, (eg_t2 (i := 148) (by decide +kernel) rfl)⟩
theorem fl_5_11 : eg_FL RX5 11 5 1 := ⟨by decide, by decide, (eg_t2 (i := 3) (by decide +kernel) rfl)⟩
theorem fl_5_19 : eg_FL RX5 19 5 3 := ⟨by decide, by decide, (eg_t2 (i := 11) (by decide +kernel) rfl)⟩
theorem fl_5_23 : eg_FL RX5 23 5 8 := ⟨by decide, by decide, (eg_t2 (i := 28) (by decide +kernel) rfl)⟩
theorem fl_5_27 : eg_FL RX5 27 5 9 := ⟨by decide, by decide, (eg_t2 (i := 30) (by decide +kernel) rfl)⟩
theorem fl_5_30 : eg_FL RX5 30 5 10 := ⟨by decide, by decide, (eg_t2 (i := 33) (by decide +kernel) rfl)⟩
theorem fl_5_33 : eg_FL RX5 33 5 11 := ⟨by decide, by decide, (eg_t2 (i := 36) (by decide +kernel) rfl)⟩
theorem fl_5_39 : eg_FL RX5 39 5 12 := ⟨by decide, by decide, (eg_t2 (i := 40) (by decide +kernel) rfl)⟩
theorem fl_5_45 : eg_FL RX5 45 5 0 := ⟨by decide, by decide, (eg_t1 (i := 239) (by decide +kernel) rfl)⟩
theorem fl_5_49 : eg_FL RX5 49 5 2 := ⟨by decide, by decide, (eg_t2 (i := 7) (by decide +kernel) rfl)⟩
theorem fl_5_52 : eg_FL RX5 52 5 4 := ⟨by decide, by decide, (eg_t2 (i := 15) (by decide +kernel) rfl)⟩
theorem fl_5_56 : eg_FL RX5 56 5 5 := ⟨by decide, by decide, (eg_t2 (i := 19) (by decide +kernel) rfl)⟩
theorem fl_5_59 : eg_FL RX5 59 5 6 := ⟨by decide, by decide, (eg_t2 (i := 22) (by decide +kernel) rfl)⟩
theorem fl_5_62 : eg_FL RX5 62 5 7 := ⟨by decide, by decide, (eg_t2 (i := 25) (by decide +kernel) rfl)⟩
theorem fl_5_84 : eg_FL RX5 84 1 0 := ⟨by decide, by decide, (eg_t1 (i := 169) (by decide +kernel) rfl)⟩
theorem fl_5_87 : eg_FL RX5 87 0 0 := ⟨by decide, by decide, (eg_t1 (i := 216) (by decide +kernel) rfl)⟩
theorem fl_5_88 : eg_FL RX5 88 1 3 := ⟨by decide, by decide, (eg_t1 (i := 182) (by decide +kernel) rfl)⟩
theorem fl_6_9 : eg_FL RX6 9 6 3 := ⟨by decide, by decide, (eg_t1 (i := 76) (by decide +kernel) rfl)⟩
theorem fl_6_15 : eg_FL RX6 15 6 9 := ⟨by decide, by decide, (eg_t1 (i := 84) (by decide +kernel) rfl)⟩
theorem fl_6_19 : eg_FL RX6 19 6 0 := ⟨by decide, by decide, (eg_t1 (i := 72) (by decide +kernel) rfl)⟩
theorem fl_6_23 : eg_FL RX6 23 6 1 := ⟨by decide, by decide, (eg_t1 (i := 73) (by decide +kernel) rfl)⟩
theorem fl_6_32 : eg_FL RX6 32 6 2 := ⟨by decide, by decide, (eg_t1 (i := 74) (by decide +kernel) rfl)⟩
theorem fl_6_35 : eg_FL RX6 35 6 4 := ⟨by decide, by decide, (eg_t1 (i := 78) (by decide +kernel) rfl)⟩
theorem fl_6_38 : eg_FL RX6 38 6 8 := ⟨by decide, by decide, (eg_t1 (i := 83) (by decide +kernel) rfl)⟩
theorem fl_6_41 : eg_FL RX6 41 6 5 := ⟨by decide, by decide, (eg_t1 (i := 80) (by decide +kernel) rfl)⟩
theorem fl_6_51 : eg_FL RX6 51 9 4 := ⟨by decide, by decide, (eg_t1 (i := 46) (by decide +kernel) rfl)⟩
theorem fl_6_54 : eg_FL RX6 54 9 2 := ⟨by decide, by decide, (eg_t1 (i := 44) (by decide +kernel) rfl)⟩
theorem fl_6_86 : eg_FL RX6 86 9 5 := ⟨by decide, by decide, (eg_t1 (i := 49) (by decide +kernel) rfl)⟩
theorem fl_6_89 : eg_FL RX6 89 6 6 := ⟨by decide, by decide, (eg_t1 (i := 81) (by decide +kernel) rfl)⟩
theorem fl_6_92 : eg_FL RX6 92 9 6 := ⟨by decide, by decide, (eg_t1 (i := 51) (by decide +kernel) rfl)⟩
theorem fl_6_95 : eg_FL RX6 95 6 7 := ⟨by decide, by decide, (eg_t1 (i := 82) (by decide +kernel) rfl)⟩
theorem fl_6_106 : eg_FL RX6 106 5 0 := ⟨by decide, by decide, (eg_t2 (i := 1) (by decide +kernel) rfl)⟩
theorem fl_6_109 : eg_FL RX6 109 5 1 := ⟨by decide, by decide, (eg_t2 (i := 6) (by decide +kernel) rfl)⟩
theorem fl_6_119 : eg_FL RX6 119 1 0 := ⟨by decide, by decide, (eg_t1 (i := 170) (by decide +kernel) rfl)⟩
theorem fl_6_126 : eg_FL RX6 126 1 1 := ⟨by decide, by decide, (eg_t1 (i := 173) (by decide +kernel) rfl)⟩
theorem fl_6_129 : eg_FL RX6 129 1 2 := ⟨by decide, by decide, (eg_t1 (i := 177) (by decide +kernel) rfl)⟩
theorem fl_6_132 : eg_FL RX6 132 1 3 := ⟨by decide, by decide, (eg_t1 (i := 183) (by decide +kernel) rfl)⟩
theorem fl_6_135 : eg_FL RX6 135 1 4 := ⟨by decide, by decide, (eg_t1 (i := 186) (by decide +kernel) rfl)⟩
theorem fl_6_138 : eg_FL RX6 138 1 5 := ⟨by decide, by decide, (eg_t1 (i := 189) (by decide +kernel) rfl)⟩
theorem fl_6_141 : eg_FL RX6 141 1 6 := ⟨by decide, by decide, (eg_t1 (i := 193) (by decide +kernel) rfl)⟩
theorem fl_6_144 : eg_FL RX6 144 5 2 := ⟨by decide, by decide, (eg_t2 (i := 9) (by decide +kernel) rfl)⟩
theorem fl_6_147 : eg_FL RX6 147 5 3 := ⟨by decide, by decide, (eg_t2 (i := 13) (by decide +kernel) rfl)⟩
theorem fl_6_154 : eg_FL RX6 154 0 0 := ⟨by decide, by decide, (eg_t1 (i := 217) (by decide +kernel) rfl)⟩
theorem fl_6_155 : eg_FL RX6 155 0 1 := ⟨by decide, by decide, (eg_t1 (i := 220) (by decide +kernel) rfl)⟩
theorem fl_6_158 : eg_FL RX6 158 0 2 := ⟨by decide, by decide, (eg_t1 (i := 224) (by decide +kernel) rfl)⟩
theorem fl_6_165 : eg_FL RX6 165 0 3 := ⟨by decide, by decide, (eg_t1 (i := 229) (by decide +kernel) rfl)⟩
theorem fl_6_168 : eg_FL RX6 168 5 4 := ⟨by decide, by decide, (eg_t2 (i := 17) (by decide +kernel) rfl)⟩
theorem fl_6_171 : eg_FL RX6 171 5 5 := ⟨by decide, by decide, (eg_t2 (i := 20) (by decide +kernel) rfl)⟩
theorem fl_6_174 : eg_FL RX6 174 5 6 := ⟨by decide, by decide, (eg_t2 (i := 23) (by decide +kernel) rfl)⟩
theorem fl_6_177 : eg_FL RX6 177 5 11 := ⟨by decide, by decide, (eg_t2 (i := 38) (by decide +kernel) rfl)⟩
theorem fl_6_180 : eg_FL RX6 180 5 12 := ⟨by decide, by decide, (eg_t2 (i := 42) (by decide +kernel) rfl)⟩
theorem fl_6_184 : eg_FL RX6 184 3 3 := ⟨by decide, by decide, (eg_t1 (i := 142) (by decide +kernel) rfl)⟩
theorem fl_6_193 : eg_FL RX6 193 5 7 := ⟨by decide, by decide, (eg_t2 (i := 26) (by decide +kernel) rfl)⟩
theorem fl_6_196 : eg_FL RX6 196 5 8 := ⟨by decide, by decide, (eg_t2 (i := 29) (by decide +kernel) rfl)⟩
theorem fl_6_199 : eg_FL RX6 199 5 9 := ⟨by decide, by decide, (eg_t2 (i := 31) (by decide +kernel) rfl)⟩
theorem fl_6_202 : eg_FL RX6 202 5 10 := ⟨by decide, by decide, (eg_t2 (i := 34) (by decide +kernel) rfl)⟩
theorem fl_6_205 : eg_FL RX6 205 6 10 := ⟨by decide, by decide, (eg_t1 (i := 85) (by decide +kernel) rfl)⟩
theorem fl_6_208 : eg_FL RX6 208 6 11 := ⟨by decide, by decide, (eg_t1 (i := 86) (by decide +kernel) rfl)⟩
theorem fl_6_211 : eg_FL RX6 211 6 12 := ⟨by decide, by decide, (eg_t1 (i := 87) (by decide +kernel) rfl)⟩
theorem fl_6_214 : eg_FL RX6 214 6 13 := ⟨by decide, by decide, (eg_t1 (i := 88) (by decide +kernel) rfl)⟩
theorem fl_6_217 : eg_FL RX6 217 6 14 := ⟨by decide, by decide, (eg_t1 (i := 89) (by decide +kernel) rfl)⟩
theorem fl_6_220 : eg_FL RX6 220 9 1 := ⟨by decide, by decide, (eg_t1 (i := 42) (by decide +kernel) rfl)⟩
theorem fl_7_9 : eg_FL RX7 9 7 2 := ⟨by decide, by decide, (eg_t2 (i := 235) (by decide +kernel) rfl)⟩
theorem fl_7_17 : eg_FL RX7 17 7 3 := ⟨by decide, by decide, (eg_t2 (i := 237) (by decide +kernel) rfl)⟩
theorem fl_7_23 : eg_FL RX7 23 7 4 := ⟨by decide, by decide, (eg_t3 (i := 0) (by decide +kernel) rfl)⟩
theorem fl_7_27 : eg_FL RX7 27 7 5 := ⟨by decide, by decide, (eg_t3 (i := 2) (by decide +kernel) rfl)⟩
theorem fl_7_30 : eg_FL RX7 30 7 0 := ⟨by decide, by decide, (eg_t2 (i := 232) (by decide +kernel) rfl)⟩
theorem fl_7_36 : eg_FL RX7 36 7 1 := ⟨by decide, by decide, (eg_t2 (i := 233) (by decide +kernel) rfl)⟩
theorem fl_7_40 : eg_FL RX7 40 7 6 := ⟨by decide, by decide, (eg_t3 (i := 4) (by decide +kernel) rfl)⟩
theorem fl_7_49 : eg_FL RX7 49 5 0 := ⟨by decide, by decide, (eg_t2 (i := 0) (by decide +kernel) rfl)⟩
theorem fl_7_54 : eg_FL RX7 54 5 1 := ⟨by decide, by decide, (eg_t2 (i := 4) (by decide +kernel) rfl)⟩
theorem fl_7_62 : eg_FL RX7 62 5 2 := ⟨by decide, by decide, (eg_t2 (i := 8) (by decide +kernel) rfl)⟩
theorem fl_7_64 : eg_FL RX7 64 5 3 := ⟨by decide, by decide, (eg_t2 (i := 12) (by decide +kernel) rfl)⟩
theorem fl_7_78 : eg_FL RX7 78 7 7 := ⟨by decide, by decide, (eg_t3 (i := 6) (by decide +kernel) rfl)⟩
theorem fl_7_105 : eg_FL RX7 105 4 2 := ⟨by decide, by decide, (eg_t2 (i := 137) (by decide +kernel) rfl)⟩
theorem fl_7_114 : eg_FL RX7 114 2 0 := ⟨by decide, by decide, (eg_t2 (i := 171) (by decide +kernel) rfl)⟩
theorem fl_7_117 : eg_FL RX7 117 0 1 := ⟨by decide, by decide, (eg_t1 (i := 219) (by decide +kernel) rfl)⟩
theorem fl_7_122 : eg_FL RX7 122 2 6 := ⟨by decide, by decide, (eg_t2 (i := 187) (by decide +kernel) rfl)⟩
theorem fl_7_125 : eg_FL RX7 125 2 4 := ⟨by decide, by decide, (eg_t2 (i := 182) (by decide +kernel) rfl)⟩
theorem fl_7_128 : eg_FL RX7 128 2 7 := ⟨by decide, by decide, (eg_t2 (i := 189) (by decide +kernel) rfl)⟩
theorem fl_7_131 : eg_FL RX7 131 1 3 := ⟨by decide, by decide, (eg_t1 (i := 181) (by decide +kernel) rfl)⟩
theorem fl_7_136 : eg_FL RX7 136 4 1 := ⟨by decide, by decide, (eg_t2 (i := 134) (by decide +kernel) rfl)⟩
theorem fl_7_139 : eg_FL RX7 139 4 5 := ⟨by decide, by decide, (eg_t2 (i := 146) (by decide +kernel) rfl)⟩
theorem fl_7_142 : eg_FL RX7 142 4 0 := ⟨by decide, by decide, (eg_t2 (i := 130) (by decide +kernel) rfl)⟩
theorem fl_7_146 : eg_FL RX7 146 2 12 := ⟨by decide, by decide, (eg_t2 (i := 204) (by decide +kernel) rfl)⟩
theorem fl_7_160 : eg_FL RX7 160 5 4 := ⟨by decide, by decide, (eg_t2 (i := 16) (by decide +kernel) rfl)⟩
theorem fl_7_163 : eg_FL RX7 163 2 1 := ⟨by decide, by decide, (eg_t2 (i := 175) (by decide +kernel) rfl)⟩
theorem fl_7_169 : eg_FL RX7 169 2 5 := ⟨by decide, by decide, (eg_t2 (i := 185) (by decide +kernel) rfl)⟩
theorem fl_7_178 : eg_FL RX7 178 1 2 := ⟨by decide, by decide, (eg_t1 (i := 178) (by decide +kernel) rfl)⟩
theorem fl_7_192 : eg_FL RX7 192 5 11 := ⟨by decide, by decide, (eg_t2 (i := 37) (by decide +kernel) rfl)⟩
theorem fl_7_195 : eg_FL RX7 195 2 2 := ⟨by decide, by decide, (eg_t2 (i := 178) (by decide +kernel) rfl)⟩
theorem fl_7_198 : eg_FL RX7 198 2 3 := ⟨by decide, by decide, (eg_t2 (i := 180) (by decide +kernel) rfl)⟩
theorem fl_7_204 : eg_FL RX7 204 5 12 := ⟨by decide, by decide, (eg_t2 (i := 41) (by decide +kernel) rfl)⟩
theorem fl_7_216 : eg_FL RX7 216 4 3 := ⟨by decide, by decide, (eg_t2 (i := 141) (by decide +kernel) rfl)⟩
theorem fl_7_219 : eg_FL RX7 219 1 6 := ⟨by decide, by decide, (eg_t1 (i := 194) (by decide +kernel) rfl)⟩
theorem fl_7_222 : eg_FL RX7 222 4 4 := ⟨by decide, by decide, (eg_t2 (i := 144) (by decide +kernel) rfl)⟩
theorem fl_7_223 : eg_FL RX7 223 2 8 := ⟨by decide, by decide, (eg_t2 (i := 193) (by decide +kernel) rfl)⟩
theorem fl_7_224 : eg_FL RX7 224 1 1 := ⟨by decide, by decide, (eg_t1 (i := 174) (by decide +kernel) rfl)⟩
theorem fl_7_227 : eg_FL RX7 227 0 2 := ⟨by decide, by decide, (eg_t1 (i := 225) (by decide +kernel) rfl)⟩
theorem fl_7_230 : eg_FL RX7 230 2 9 := ⟨by decide, by decide, (eg_t2 (i := 196) (by decide +kernel) rfl)⟩
theorem fl_7_233 : eg_FL RX7 233 2 10 := ⟨by decide, by decide, (eg_t2 (i := 199) (by decide +kernel) rfl)⟩
theorem fl_7_236 : eg_FL RX7 236 5 5 := ⟨by decide, by decide, (eg_t2 (i := 21) (by decide +kernel) rfl)⟩
theorem fl_7_250 : eg_FL RX7 250 1 5 := ⟨by decide, by decide, (eg_t1 (i := 190) (by decide +kernel) rfl)⟩
theorem fl_7_253 : eg_FL RX7 253 5 6 := ⟨by decide, by decide, (eg_t2 (i := 24) (by decide +kernel) rfl)⟩
theorem fl_7_256 : eg_FL RX7 256 1 4 := ⟨by decide, by decide, (eg_t1 (i := 187) (by decide +kernel) rfl)⟩
theorem fl_8_9 : eg_FL RX8 9 8 2 := ⟨by decide, by decide, (eg_t2 (i := 81) (by decide +kernel) rfl)⟩
theorem fl_8_15 : eg_FL RX8 15 8 3 := ⟨by decide, by decide, (eg_t2 (i := 82) (by decide +kernel) rfl)⟩
theorem fl_8_18 : eg_FL RX8 18 8 4 := ⟨by decide, by decide, (eg_t2 (i := 83) (by decide +kernel) rfl)⟩
theorem fl_8_21 : eg_FL RX8 21 8 5 := ⟨by decide, by decide, (eg_t2 (i := 84) (by decide +kernel) rfl)⟩
theorem fl_8_24 : eg_FL RX8 24 8 6 := ⟨by decide, by decide, (eg_t2 (i := 85) (by decide +kernel) rfl)⟩
theorem fl_8_28 : eg_FL RX8 28 8 0 := ⟨by decide, by decide, (eg_t2 (i := 77) (by decide +kernel) rfl)⟩
theorem fl_8_32 : eg_FL RX8 32 8 1 := ⟨by decide, by decide, (eg_t2 (i := 79) (by decide +kernel) rfl)⟩
theorem fl_8_39 : eg_FL RX8 39 7 3 := ⟨by decide, by decide, (eg_t2 (i := 238) (by decide +kernel) rfl)⟩
theorem fl_8_45 : eg_FL RX8 45 4 0 := ⟨by decide, by decide, (eg_t2 (i := 131) (by decide +kernel) rfl)⟩
theorem fl_9_9 : eg_FL RX9 9 9 0 := ⟨by decide, by decide, (eg_t1 (i := 40) (by decide +kernel) rfl)⟩
theorem fl_9_15 : eg_FL RX9 15 9 1 := ⟨by decide, by decide, (eg_t1 (i := 41) (by decide +kernel) rfl)⟩
theorem fl_9_19 : eg_FL RX9 19 9 3 := ⟨by decide, by decide, (eg_t1 (i := 45) (by decide +kernel) rfl)⟩
theorem fl_9_25 : eg_FL RX9 25 9 2 := ⟨by decide, by decide, (eg_t1 (i := 43) (by decide +kernel) rfl)⟩
theorem fl_9_28 : eg_FL RX9 28 9 4 := ⟨by decide, by decide, (eg_t1 (i := 47) (by decide +kernel) rfl)⟩
theorem fl_9_40 : eg_FL RX9 40 9 6 := ⟨by decide, by decide, (eg_t1 (i := 50) (by decide +kernel) rfl)⟩
theorem fl_9_57 : eg_FL RX9 57 9 5 := ⟨by decide, by decide, (eg_t1 (i := 48) (by decide +kernel) rfl)⟩
theorem fl_11_7 : eg_FL RX11 7 11 0 := ⟨by decide, by decide, (eg_t6 (i := 82) (by decide +kernel) rfl)⟩
theorem fl_11_13 : eg_FL RX11 13 11 3 := ⟨by decide, by decide, (eg_t6 (i := 85) (by decide +kernel) rfl)⟩
theorem fl_11_16 : eg_FL RX11 16 11 5 := ⟨by decide, by decide, (eg_t6 (i := 87) (by decide +kernel) rfl)⟩
theorem fl_11_20 : eg_FL RX11 20 11 27 := ⟨by decide, by decide, (eg_t6 (i := 109) (by decide +kernel) rfl)⟩
theorem fl_11_23 : eg_FL RX11 23 11 28 := ⟨by decide, by decide, (eg_t6 (i := 110) (by decide +kernel) rfl)⟩
theorem fl_11_26 : eg_FL RX11 26 11 29 := ⟨by decide, by decide, (eg_t6 (i := 111) (by decide +kernel) rfl)⟩
theorem fl_11_29 : eg_FL RX11 29 11 30 := ⟨by decide, by decide, (eg_t6 (i := 112) (by decide +kernel) rfl)⟩
theorem fl_11_32 : eg_FL RX11 32 11 31 := ⟨by decide, by decide, (eg_t6 (i := 113) (by decide +kernel) rfl)⟩
theorem fl_11_35 : eg_FL RX11 35 11 32 := ⟨by decide, by decide, (eg_t6 (i := 114) (by decide +kernel) rfl)⟩
theorem fl_11_38 : eg_FL RX11 38 11 33 := ⟨by decide, by decide, (eg_t6 (i := 115) (by decide +kernel) rfl)⟩
theorem fl_11_41 : eg_FL RX11 41 11 34 := ⟨by decide, by decide, (eg_t6 (i := 116) (by decide +kernel) rfl)⟩
theorem fl_11_44 : eg_FL RX11 44 11 35 := ⟨by decide, by decide, (eg_t6 (i := 117) (by decide +kernel) rfl)⟩
theorem fl_11_47 : eg_FL RX11 47 11 36 := ⟨by decide, by decide, (eg_t6 (i := 118) (by decide +kernel) rfl)⟩
theorem fl_11_50 : eg_FL RX11 50 11 37 := ⟨by decide, by decide, (eg_t6 (i := 119) (by decide +kernel) rfl)⟩
theorem fl_11_54 : eg_FL RX11 54 11 38 := ⟨by decide, by decide, (eg_t6 (i := 120) (by decide +kernel) rfl)⟩
theorem fl_11_57 : eg_FL RX11 57 11 39 := ⟨by decide, by decide, (eg_t6 (i := 121) (by decide +kernel) rfl)⟩
theorem fl_11_60 : eg_FL RX11 60 11 40 := ⟨by decide, by decide, (eg_t6 (i := 122) (by decide +kernel) rfl)⟩
theorem fl_11_63 : eg_FL RX11 63 11 41 := ⟨by decide, by decide, (eg_t6 (i := 123) (by decide +kernel) rfl)⟩
theorem fl_11_66 : eg_FL RX11 66 11 42 := ⟨by decide, by decide, (eg_t6 (i := 124) (by decide +kernel) rfl)⟩
theorem fl_11_69 : eg_FL RX11 69 11 49 := ⟨by decide, by decide, (eg_t6 (i := 131) (by decide +kernel) rfl)⟩
theorem fl_11_72 : eg_FL RX11 72 11 50 := ⟨by decide, by decide, (eg_t6 (i := 132) (by decide +kernel) rfl)⟩
theorem fl_11_75 : eg_FL RX11 75 11 51 := ⟨by decide, by decide, (eg_t6 (i := 133) (by decide +kernel) rfl)⟩
theorem fl_11_78 : eg_FL RX11 78 11 64 := ⟨by decide, by decide, (eg_t6 (i := 146) (by decide +kernel) rfl)⟩
theorem fl_11_81 : eg_FL RX11 81 11 65 := ⟨by decide, by decide, (eg_t6 (i := 147) (by decide +kernel) rfl)⟩
theorem fl_11_84 : eg_FL RX11 84 11 66 := ⟨by decide, by decide, (eg_t6 (i := 148) (by decide +kernel) rfl)⟩
theorem fl_11_88 : eg_FL RX11 88 11 67 := ⟨by decide, by decide, (eg_t6 (i := 149) (by decide +kernel) rfl)⟩
theorem fl_11_91 : eg_FL RX11 91 11 70 := ⟨by decide, by decide, (eg_t6 (i := 152) (by decide +kernel) rfl)⟩
theorem fl_11_94 : eg_FL RX11 94 11 71 := ⟨by decide, by decide, (eg_t6 (i := 153) (by decide +kernel) rfl)⟩
theorem fl_11_97 : eg_FL RX11 97 11 72 := ⟨by decide, by decide, (eg_t6 (i := 154) (by decide +kernel) rfl)⟩
theorem fl_11_100 : eg_FL RX11 100 11 74 := ⟨by decide, by decide, (eg_t6 (i := 156) (by decide +kernel) rfl)⟩
theorem fl_11_103 : eg_FL RX11 103 11 75 := ⟨by decide, by decide, (eg_t6 (i := 157) (by decide +kernel) rfl)⟩
theorem fl_11_106 : eg_FL RX11 106 11 76 := ⟨by decide, by decide, (eg_t6 (i := 158) (by decide +kernel) rfl)⟩
theorem fl_11_109 : eg_FL RX11 109 11 77 := ⟨by decide, by decide, (eg_t6 (i := 159) (by decide +kernel) rfl)⟩
theorem fl_11_112 : eg_FL RX11 112 11 78 := ⟨by decide, by decide, (eg_t6 (i := 160) (by decide +kernel) rfl)⟩
theorem fl_11_115 : eg_FL RX11 115 11 79 := ⟨by decide, by decide, (eg_t6 (i := 161) (by decide +kernel) rfl)⟩
theorem fl_11_118 : eg_FL RX11 118 11 81 := ⟨by decide, by decide, (eg_t6 (i := 163) (by decide +kernel) rfl)⟩
theorem fl_11_127 : eg_FL RX11 127 11 2 := ⟨by decide, by decide, (eg_t6 (i := 84) (by decide +kernel) rfl)⟩
theorem fl_11_130 : eg_FL RX11 130 11 1 := ⟨by decide, by decide, (eg_t6 (i := 83) (by decide +kernel) rfl)⟩
theorem fl_11_133 : eg_FL RX11 133 11 4 := ⟨by decide, by decide, (eg_t6 (i := 86) (by decide +kernel) rfl)⟩
theorem fl_11_136 : eg_FL RX11 136 11 10 := ⟨by decide, by decide, (eg_t6 (i := 92) (by decide +kernel) rfl)⟩
theorem fl_11_139 : eg_FL RX11 139 11 6 := ⟨by decide, by decide, (eg_t6 (i := 88) (by decide +kernel) rfl)⟩
theorem fl_11_142 : eg_FL RX11 142 11 7 := ⟨by decide, by decide, (eg_t6 (i := 89) (by decide +kernel) rfl)⟩
theorem fl_11_145 : eg_FL RX11 145 11 8 := ⟨by decide, by decide, (eg_t6 (i := 90) (by decide +kernel) rfl)⟩
theorem fl_11_156 : eg_FL RX11 156 11 9 := ⟨by decide, by decide, (eg_t6 (i := 91) (by decide +kernel) rfl)⟩
theorem fl_11_175 : eg_FL RX11 175 11 11 := ⟨by decide, by decide, (eg_t6 (i := 93) (by decide +kernel) rfl)⟩
theorem fl_11_181 : eg_FL RX11 181 11 19 := ⟨by decide, by decide, (eg_t6 (i := 101) (by decide +kernel) rfl)⟩
theorem fl_11_184 : eg_FL RX11 184 11 20 := ⟨by decide, by decide, (eg_t6 (i := 102) (by decide +kernel) rfl)⟩
theorem fl_11_187 : eg_FL RX11 187 11 21 := ⟨by decide, by decide, (eg_t6 (i := 103) (by decide +kernel) rfl)⟩
theorem fl_11_190 : eg_FL RX11 190 11 22 := ⟨by decide, by decide, (eg_t6 (i := 104) (by decide +kernel) rfl)⟩
theorem fl_11_193 : eg_FL RX11 193 11 46 := ⟨by decide, by decide, (eg_t6 (i := 128) (by decide +kernel) rfl)⟩
theorem fl_11_196 : eg_FL RX11 196 11 23 := ⟨by decide, by decide, (eg_t6 (i := 105) (by decide +kernel) rfl)⟩
theorem fl_11_200 : eg_FL RX11 200 11 24 := ⟨by decide, by decide, (eg_t6 (i := 106) (by decide +kernel) rfl)⟩
theorem fl_11_203 : eg_FL RX11 203 11 25 := ⟨by decide, by decide, (eg_t6 (i := 107) (by decide +kernel) rfl)⟩
theorem fl_11_206 : eg_FL RX11 206 11 26 := ⟨by decide, by decide, (eg_t6 (i := 108) (by decide +kernel) rfl)⟩
theorem fl_11_209 : eg_FL RX11 209 11 12 := ⟨by decide, by decide, (eg_t6 (i := 94) (by decide +kernel) rfl)⟩
theorem fl_11_212 : eg_FL RX11 212 11 13 := ⟨by decide, by decide, (eg_t6 (i := 95) (by decide +kernel) rfl)⟩
theorem fl_11_215 : eg_FL RX11 215 11 14 := ⟨by decide, by decide, (eg_t6 (i := 96) (by decide +kernel) rfl)⟩
theorem fl_11_218 : eg_FL RX11 218 11 15 := ⟨by decide, by decide, (eg_t6 (i := 97) (by decide +kernel) rfl)⟩
theorem fl_11_221 : eg_FL RX11 221 11 16 := ⟨by decide, by decide, (eg_t6 (i := 98) (by decide +kernel) rfl)⟩
theorem fl_11_224 : eg_FL RX11 224 11 17 := ⟨by decide, by decide, (eg_t6 (i := 99) (by decide +kernel) rfl)⟩
theorem fl_11_227 : eg_FL RX11 227 11 18 := ⟨by decide, by decide, (eg_t6 (i := 100) (by decide +kernel) rfl)⟩
theorem fl_11_234 : eg_FL RX11 234 11 73 := ⟨by decide, by decide, (eg_t6 (i := 155) (by decide +kernel) rfl)⟩
theorem fl_11_237 : eg_FL RX11 237 11 69 := ⟨by decide, by decide, (eg_t6 (i := 151) (by decide +kernel) rfl)⟩
theorem fl_11_240 : eg_FL RX11 240 11 80 := ⟨by decide, by decide, (eg_t6 (i := 162) (by decide +kernel) rfl)⟩
theorem fl_11_297 : eg_FL RX11 297 11 44 := ⟨by decide, by decide, (eg_t6 (i := 126) (by decide +kernel) rfl)⟩
theorem fl_11_300 : eg_FL RX11 300 11 43 := ⟨by decide, by decide, (eg_t6 (i := 125) (by decide +kernel) rfl)⟩
theorem fl_11_314 : eg_FL RX11 314 11 45 := ⟨by decide, by decide, (eg_t6 (i := 127) (by decide +kernel) rfl)⟩
theorem fl_11_321 : eg_FL RX11 321 11 48 := ⟨by decide, by decide, (eg_t6 (i := 130) (by decide +kernel) rfl)⟩
theorem fl_11_327 : eg_FL RX11 327 11 47 := ⟨by decide, by decide, (eg_t6 (i := 129) (by decide +kernel) rfl)⟩
theorem fl_11_339 : eg_FL RX11 339 11 52 := ⟨by decide, by decide, (eg_t6 (i := 134) (by decide +kernel) rfl)⟩
theorem fl_11_342 : eg_FL RX11 342 11 53 := ⟨by decide, by decide, (eg_t6 (i := 135) (by decide +kernel) rfl)⟩
theorem fl_11_345 : eg_FL RX11 345 11 55 := ⟨by decide, by decide, (eg_t6 (i := 137) (by decide +kernel) rfl)⟩
theorem fl_11_348 : eg_FL RX11 348 11 57 := ⟨by decide, by decide, (eg_t6 (i := 139) (by decide +kernel) rfl)⟩
theorem fl_11_351 : eg_FL RX11 351 11 59 := ⟨by decide, by decide, (eg_t6 (i := 141) (by decide +kernel) rfl)⟩
theorem fl_11_354 : eg_FL RX11 354 11 60 := ⟨by decide, by decide, (eg_t6 (i := 142) (by decide +kernel) rfl)⟩
theorem fl_11_357 : eg_FL RX11 357 11 61 := ⟨by decide, by decide, (eg_t6 (i := 143) (by decide +kernel) rfl)⟩
theorem fl_11_360 : eg_FL RX11 360 11 62 := ⟨by decide, by decide, (eg_t6 (i := 144) (by decide +kernel) rfl)⟩
theorem fl_11_363 : eg_FL RX11 363 11 58 := ⟨by decide, by decide, (eg_t6 (i := 140) (by decide +kernel) rfl)⟩
theorem fl_11_383 : eg_FL RX11 383 11 68 := ⟨by decide, by decide, (eg_t6 (i := 150) (by decide +kernel) rfl)⟩
theorem fl_11_406 : eg_FL RX11 406 11 63 := ⟨by decide, by decide, (eg_t6 (i := 145) (by decide +kernel) rfl)⟩
theorem fl_11_441 : eg_FL RX11 441 11 54 := ⟨by decide, by decide, (eg_t6 (i := 136) (by decide +kernel) rfl)⟩
theorem fl_11_456 : eg_FL RX11 456 11 56 := ⟨by decide, by decide, (eg_t6 (i := 138) (by decide +kernel) rfl)⟩
theorem wi_mtX10_canWeigh : Cond.initialized mtX10_canWeigh.1.cls ∈ eg_T ∧ Cond.code mtX10_canWeigh.1 mtX10_canWeigh.2.1 mtX10_canWeigh.2.2.1 mtX10_canWeigh.2.2.2 ∈ eg_T := ⟨(eg_t1 (i := 1) (by decide +kernel) rfl), (eg_t5 (i := 91) rfl rfl)⟩
theorem ws_mtX10_canWeigh : Cond.instanceMethod mtX10_canWeigh.1 ∈ eg_T ∧ Cond.selects mtX10_canWeigh.1.cls mtX10_canWeigh.1 mtX10_canWeigh.1 ∈ eg_T := ⟨(eg_t5 (i := 90) (by decide +kernel) rfl), (eg_t0 (i := 45) (by decide +kernel))⟩
theorem wd_mtX10_canWeigh : (mtX10_canWeigh.1.cls ≠ "java/lang/invoke/MethodHandle" ∧ mtX10_canWeigh.1.cls ≠ "java/lang/invoke/VarHandle" ∧ (parseMethodDescriptor mtX10_canWeigh.1.desc).map (fun d => d.parameters.length) = some 5) ∧ mtX10_canWeigh.2.2.1 ≤ 21 := by decide +kernel
theorem wi_mtX10_cheapest : Cond.initialized mtX10_cheapest.1.cls ∈ eg_T ∧ Cond.code mtX10_cheapest.1 mtX10_cheapest.2.1 mtX10_cheapest.2.2.1 mtX10_cheapest.2.2.2 ∈ eg_T := ⟨(eg_t1 (i := 1) (by decide +kernel) rfl), (eg_t5 (i := 95) rfl rfl)⟩
theorem ws_mtX10_cheapest : Cond.instanceMethod mtX10_cheapest.1 ∈ eg_T ∧ Cond.selects mtX10_cheapest.1.cls mtX10_cheapest.1 mtX10_cheapest.1 ∈ eg_T := ⟨(eg_t5 (i := 94) (by decide +kernel) rfl), (eg_t0 (i := 46) (by decide +kernel))⟩
theorem wd_mtX10_cheapest : (mtX10_cheapest.1.cls ≠ "java/lang/invoke/MethodHandle" ∧ mtX10_cheapest.1.cls ≠ "java/lang/invoke/VarHandle" ∧ (parseMethodDescriptor mtX10_cheapest.1.desc).map (fun d => d.parameters.length) = some 6) ∧ mtX10_cheapest.2.2.1 ≤ 21 := by decide +kernel
theorem wi_mtX10_doByHand : Cond.initialized mtX10_doByHand.1.cls ∈ eg_T ∧ Cond.code mtX10_doByHand.1 mtX10_doByHand.2.1 mtX10_doByHand.2.2.1 mtX10_doByHand.2.2.2 ∈ eg_T := ⟨(eg_t1 (i := 1) (by decide +kernel) rfl), (eg_t4 (i := 198) rfl rfl)⟩
theorem ws_mtX10_doByHand : Cond.instanceMethod mtX10_doByHand.1 ∈ eg_T ∧ Cond.selects mtX10_doByHand.1.cls mtX10_doByHand.1 mtX10_doByHand.1 ∈ eg_T := ⟨(eg_t4 (i := 197) (by decide +kernel) rfl), (eg_t0 (i := 38) (by decide +kernel))⟩
theorem wd_mtX10_doByHand : (mtX10_doByHand.1.cls ≠ "java/lang/invoke/MethodHandle" ∧ mtX10_doByHand.1.cls ≠ "java/lang/invoke/VarHandle" ∧ (parseMethodDescriptor mtX10_doByHand.1.desc).map (fun d => d.parameters.length) = some 3) ∧ mtX10_doByHand.2.2.1 ≤ 21 := by decide +kernel
theorem wi_mtX10_feedNumber : Cond.initialized mtX10_feedNumber.1.cls ∈ eg_T ∧ Cond.code mtX10_feedNumber.1 mtX10_feedNumber.2.1 mtX10_feedNumber.2.2.1 mtX10_feedNumber.2.2.2 ∈ eg_T := ⟨(eg_t1 (i := 1) (by decide +kernel) rfl), (eg_t3 (i := 77) rfl rfl)⟩
theorem ws_mtX10_feedNumber : Cond.instanceMethod mtX10_feedNumber.1 ∈ eg_T ∧ Cond.selects mtX10_feedNumber.1.cls mtX10_feedNumber.1 mtX10_feedNumber.1 ∈ eg_T := ⟨(eg_t3 (i := 76) (by decide +kernel) rfl), (eg_t0 (i := 0) (by decide +kernel))⟩
theorem wd_mtX10_feedNumber : (mtX10_feedNumber.1.cls ≠ "java/lang/invoke/MethodHandle" ∧ mtX10_feedNumber.1.cls ≠ "java/lang/invoke/VarHandle" ∧ (parseMethodDescriptor mtX10_feedNumber.1.desc).map (fun d => d.parameters.length) = some 1) ∧ mtX10_feedNumber.2.2.1 ≤ 21 := by decide +kernel
theorem wi_mtX10_fitsSpare : Cond.initialized mtX10_fitsSpare.1.cls ∈ eg_T ∧ Cond.code mtX10_fitsSpare.1 mtX10_fitsSpare.2.1 mtX10_fitsSpare.2.2.1 mtX10_fitsSpare.2.2.2 ∈ eg_T := ⟨(eg_t1 (i := 1) (by decide +kernel) rfl), (eg_t5 (i := 154) rfl rfl)⟩
theorem ws_mtX10_fitsSpare : Cond.instanceMethod mtX10_fitsSpare.1 ∈ eg_T ∧ Cond.selects mtX10_fitsSpare.1.cls mtX10_fitsSpare.1 mtX10_fitsSpare.1 ∈ eg_T := ⟨(eg_t5 (i := 153) (by decide +kernel) rfl), (eg_t0 (i := 47) (by decide +kernel))⟩
theorem wd_mtX10_fitsSpare : (mtX10_fitsSpare.1.cls ≠ "java/lang/invoke/MethodHandle" ∧ mtX10_fitsSpare.1.cls ≠ "java/lang/invoke/VarHandle" ∧ (parseMethodDescriptor mtX10_fitsSpare.1.desc).map (fun d => d.parameters.length) = some 0) ∧ mtX10_fitsSpare.2.2.1 ≤ 21 := by decide +kernel
theorem wi_mtX10_isLength : Cond.initialized mtX10_isLength.1.cls ∈ eg_T ∧ Cond.code mtX10_isLength.1 mtX10_isLength.2.1 mtX10_isLength.2.2.1 mtX10_isLength.2.2.2 ∈ eg_T := ⟨(eg_t1 (i := 1) (by decide +kernel) rfl), (eg_t5 (i := 6) rfl rfl)⟩
theorem ws_mtX10_isLength : Cond.static mtX10_isLength.1 ∈ eg_T := (eg_t5 (i := 5) (by decide +kernel) rfl)
theorem wd_mtX10_isLength : (mtX10_isLength.1.cls ≠ "java/lang/invoke/MethodHandle" ∧ mtX10_isLength.1.cls ≠ "java/lang/invoke/VarHandle" ∧ (parseMethodDescriptor mtX10_isLength.1.desc).map (fun d => d.parameters.length) = some 1) ∧ mtX10_isLength.2.2.1 ≤ 21 := by decide +kernel
theorem wi_mtX10_isNamed : Cond.initialized mtX10_isNamed.1.cls ∈ eg_T ∧ Cond.code mtX10_isNamed.1 mtX10_isNamed.2.1 mtX10_isNamed.2.2.1 mtX10_isNamed.2.2.2 ∈ eg_T := ⟨(eg_t1 (i := 1) (by decide +kernel) rfl), (eg_t5 (i := 119) rfl rfl)⟩
theorem ws_mtX10_isNamed : Cond.static mtX10_isNamed.1 ∈ eg_T := (eg_t5 (i := 118) (by decide +kernel) rfl)
theorem wd_mtX10_isNamed : (mtX10_isNamed.1.cls ≠ "java/lang/invoke/MethodHandle" ∧ mtX10_isNamed.1.cls ≠ "java/lang/invoke/VarHandle" ∧ (parseMethodDescriptor mtX10_isNamed.1.desc).map (fun d => d.parameters.length) = some 1) ∧ mtX10_isNamed.2.2.1 ≤ 21 := by decide +kernel
theorem wi_mtX10_nextOrder : Cond.initialized mtX10_nextOrder.1.cls ∈ eg_T ∧ Cond.code mtX10_nextOrder.1 mtX10_nextOrder.2.1 mtX10_nextOrder.2.2.1 mtX10_nextOrder.2.2.2 ∈ eg_T := ⟨(eg_t1 (i := 1) (by decide +kernel) rfl), (eg_t5 (i := 51) rfl rfl)⟩
theorem ws_mtX10_nextOrder : Cond.instanceMethod mtX10_nextOrder.1 ∈ eg_T ∧ Cond.selects mtX10_nextOrder.1.cls mtX10_nextOrder.1 mtX10_nextOrder.1 ∈ eg_T := ⟨(eg_t5 (i := 50) (by decide +kernel) rfl), (eg_t0 (i := 42) (by decide +kernel))⟩
theorem wd_mtX10_nextOrder : (mtX10_nextOrder.1.cls ≠ "java/lang/invoke/MethodHandle" ∧ mtX10_nextOrder.1.cls ≠ "java/lang/invoke/VarHandle" ∧ (parseMethodDescriptor mtX10_nextOrder.1.desc).map (fun d => d.parameters.length) = some 1) ∧ mtX10_nextOrder.2.2.1 ≤ 21 := by decide +kernel
theorem wi_mtX10_orderByNumbers : Cond.initialized mtX10_orderByNumbers.1.cls ∈ eg_T ∧ Cond.code mtX10_orderByNumbers.1 mtX10_orderByNumbers.2.1 mtX10_orderByNumbers.2.2.1 mtX10_orderByNumbers.2.2.2 ∈ eg_T := ⟨(eg_t1 (i := 1) (by decide +kernel) rfl), (eg_t4 (i := 35) rfl rfl)⟩
theorem ws_mtX10_orderByNumbers : Cond.instanceMethod mtX10_orderByNumbers.1 ∈ eg_T ∧ Cond.selects mtX10_orderByNumbers.1.cls mtX10_orderByNumbers.1 mtX10_orderByNumbers.1 ∈ eg_T := ⟨(eg_t4 (i := 34) (by decide +kernel) rfl), (eg_t0 (i := 22) (by decide +kernel))⟩
theorem wd_mtX10_orderByNumbers : (mtX10_orderByNumbers.1.cls ≠ "java/lang/invoke/MethodHandle" ∧ mtX10_orderByNumbers.1.cls ≠ "java/lang/invoke/VarHandle" ∧ (parseMethodDescriptor mtX10_orderByNumbers.1.desc).map (fun d => d.parameters.length) = some 0) ∧ mtX10_orderByNumbers.2.2.1 ≤ 21 := by decide +kernel
theorem wi_mtX10_performAgain : Cond.initialized mtX10_performAgain.1.cls ∈ eg_T ∧ Cond.code mtX10_performAgain.1 mtX10_performAgain.2.1 mtX10_performAgain.2.2.1 mtX10_performAgain.2.2.2 ∈ eg_T := ⟨(eg_t1 (i := 1) (by decide +kernel) rfl), (eg_t4 (i := 214) rfl rfl)⟩
theorem ws_mtX10_performAgain : Cond.instanceMethod mtX10_performAgain.1 ∈ eg_T ∧ Cond.selects mtX10_performAgain.1.cls mtX10_performAgain.1 mtX10_performAgain.1 ∈ eg_T := ⟨(eg_t4 (i := 213) (by decide +kernel) rfl), (eg_t0 (i := 39) (by decide +kernel))⟩
theorem wd_mtX10_performAgain : (mtX10_performAgain.1.cls ≠ "java/lang/invoke/MethodHandle" ∧ mtX10_performAgain.1.cls ≠ "java/lang/invoke/VarHandle" ∧ (parseMethodDescriptor mtX10_performAgain.1.desc).map (fun d => d.parameters.length) = some 2) ∧ mtX10_performAgain.2.2.1 ≤ 21 := by decide +kernel
theorem wi_mtX10_swapInOrder : Cond.initialized mtX10_swapInOrder.1.cls ∈ eg_T ∧ Cond.code mtX10_swapInOrder.1 mtX10_swapInOrder.2.1 mtX10_swapInOrder.2.2.1 mtX10_swapInOrder.2.2.2 ∈ eg_T := ⟨(eg_t1 (i := 1) (by decide +kernel) rfl), (eg_t5 (i := 55) rfl rfl)⟩
theorem ws_mtX10_swapInOrder : Cond.instanceMethod mtX10_swapInOrder.1 ∈ eg_T ∧ Cond.selects mtX10_swapInOrder.1.cls mtX10_swapInOrder.1 mtX10_swapInOrder.1 ∈ eg_T := ⟨(eg_t5 (i := 54) (by decide +kernel) rfl), (eg_t0 (i := 43) (by decide +kernel))⟩
theorem wd_mtX10_swapInOrder : (mtX10_swapInOrder.1.cls ≠ "java/lang/invoke/MethodHandle" ∧ mtX10_swapInOrder.1.cls ≠ "java/lang/invoke/VarHandle" ∧ (parseMethodDescriptor mtX10_swapInOrder.1.desc).map (fun d => d.parameters.length) = some 2) ∧ mtX10_swapInOrder.2.2.1 ≤ 21 := by decide +kernel
theorem wi_mtX10_takenAt : Cond.initialized mtX10_takenAt.1.cls ∈ eg_T ∧ Cond.code mtX10_takenAt.1 mtX10_takenAt.2.1 mtX10_takenAt.2.2.1 mtX10_takenAt.2.2.2 ∈ eg_T := ⟨(eg_t1 (i := 1) (by decide +kernel) rfl), (eg_t5 (i := 63) rfl rfl)⟩
theorem ws_mtX10_takenAt : Cond.instanceMethod mtX10_takenAt.1 ∈ eg_T ∧ Cond.selects mtX10_takenAt.1.cls mtX10_takenAt.1 mtX10_takenAt.1 ∈ eg_T := ⟨(eg_t5 (i := 62) (by decide +kernel) rfl), (eg_t0 (i := 44) (by decide +kernel))⟩
theorem wd_mtX10_takenAt : (mtX10_takenAt.1.cls ≠ "java/lang/invoke/MethodHandle" ∧ mtX10_takenAt.1.cls ≠ "java/lang/invoke/VarHandle" ∧ (parseMethodDescriptor mtX10_takenAt.1.desc).map (fun d => d.parameters.length) = some 3) ∧ mtX10_takenAt.2.2.1 ≤ 21 := by decide +kernel
theorem wi_mtX10_waitedBy : Cond.initialized mtX10_waitedBy.1.cls ∈ eg_T ∧ Cond.code mtX10_waitedBy.1 mtX10_waitedBy.2.1 mtX10_waitedBy.2.2.1 mtX10_waitedBy.2.2.2 ∈ eg_T := ⟨(eg_t1 (i := 1) (by decide +kernel) rfl), (eg_t5 (i := 10) rfl rfl)⟩
theorem ws_mtX10_waitedBy : Cond.instanceMethod mtX10_waitedBy.1 ∈ eg_T ∧ Cond.selects mtX10_waitedBy.1.cls mtX10_waitedBy.1 mtX10_waitedBy.1 ∈ eg_T := ⟨(eg_t5 (i := 9) (by decide +kernel) rfl), (eg_t0 (i := 41) (by decide +kernel))⟩
theorem wd_mtX10_waitedBy : (mtX10_waitedBy.1.cls ≠ "java/lang/invoke/MethodHandle" ∧ mtX10_waitedBy.1.cls ≠ "java/lang/invoke/VarHandle" ∧ (parseMethodDescriptor mtX10_waitedBy.1.desc).map (fun d => d.parameters.length) = some 2) ∧ mtX10_waitedBy.2.2.1 ≤ 21 := by decide +kernel
theorem wi_mtX0_clear : Cond.initialized mtX0_clear.1.cls ∈ eg_T ∧ Cond.code mtX0_clear.1 mtX0_clear.2.1 mtX0_clear.2.2.1 mtX0_clear.2.2.2 ∈ eg_T := ⟨(eg_t1 (i := 7) (by decide +kernel) rfl), (eg_t3 (i := 208) rfl rfl)⟩
theorem ws_mtX0_clear : Cond.instanceMethod mtX0_clear.1 ∈ eg_T ∧ Cond.selects mtX0_clear.1.cls mtX0_clear.1 mtX0_clear.1 ∈ eg_T := ⟨(eg_t3 (i := 206) (by decide +kernel) rfl), (eg_t3 (i := 207) (by decide +kernel) rfl)⟩
theorem wd_mtX0_clear : (mtX0_clear.1.cls ≠ "java/lang/invoke/MethodHandle" ∧ mtX0_clear.1.cls ≠ "java/lang/invoke/VarHandle" ∧ (parseMethodDescriptor mtX0_clear.1.desc).map (fun d => d.parameters.length) = some 0) ∧ mtX0_clear.2.2.1 ≤ 21 := by decide +kernel
theorem wi_mtX0_copyFrom : Cond.initialized mtX0_copyFrom.1.cls ∈ eg_T ∧ Cond.code mtX0_copyFrom.1 mtX0_copyFrom.2.1 mtX0_copyFrom.2.2.1 mtX0_copyFrom.2.2.2 ∈ eg_T := ⟨(eg_t1 (i := 7) (by decide +kernel) rfl), (eg_t5 (i := 31) rfl rfl)⟩
theorem ws_mtX0_copyFrom : Cond.instanceMethod mtX0_copyFrom.1 ∈ eg_T ∧ Cond.selects mtX0_copyFrom.1.cls mtX0_copyFrom.1 mtX0_copyFrom.1 ∈ eg_T := ⟨(eg_t5 (i := 29) (by decide +kernel) rfl), (eg_t5 (i := 30) (by decide +kernel) rfl)⟩
theorem wd_mtX0_copyFrom : (mtX0_copyFrom.1.cls ≠ "java/lang/invoke/MethodHandle" ∧ mtX0_copyFrom.1.cls ≠ "java/lang/invoke/VarHandle" ∧ (parseMethodDescriptor mtX0_copyFrom.1.desc).map (fun d => d.parameters.length) = some 1) ∧ mtX0_copyFrom.2.2.1 ≤ 21 := by decide +kernel
theorem wi_mtX1_clear : Cond.initialized mtX1_clear.1.cls ∈ eg_T ∧ Cond.code mtX1_clear.1 mtX1_clear.2.1 mtX1_clear.2.2.1 mtX1_clear.2.2.2 ∈ eg_T := ⟨(eg_t1 (i := 6) (by decide +kernel) rfl), (eg_t3 (i := 179) rfl rfl)⟩
theorem ws_mtX1_clear : Cond.instanceMethod mtX1_clear.1 ∈ eg_T ∧ Cond.selects mtX1_clear.1.cls mtX1_clear.1 mtX1_clear.1 ∈ eg_T := ⟨(eg_t3 (i := 177) (by decide +kernel) rfl), (eg_t3 (i := 178) (by decide +kernel) rfl)⟩
theorem wd_mtX1_clear : (mtX1_clear.1.cls ≠ "java/lang/invoke/MethodHandle" ∧ mtX1_clear.1.cls ≠ "java/lang/invoke/VarHandle" ∧ (parseMethodDescriptor mtX1_clear.1.desc).map (fun d => d.parameters.length) = some 0) ∧ mtX1_clear.2.2.1 ≤ 21 := by decide +kernel
theorem wi_mtX1_copyFrom : Cond.initialized mtX1_copyFrom.1.cls ∈ eg_T ∧ Cond.code mtX1_copyFrom.1 mtX1_copyFrom.2.1 mtX1_copyFrom.2.2.1 mtX1_copyFrom.2.2.2 ∈ eg_T := ⟨(eg_t1 (i := 6) (by decide +kernel) rfl), (eg_t5 (i := 27) rfl rfl)⟩
theorem ws_mtX1_copyFrom : Cond.instanceMethod mtX1_copyFrom.1 ∈ eg_T ∧ Cond.selects mtX1_copyFrom.1.cls mtX1_copyFrom.1 mtX1_copyFrom.1 ∈ eg_T := ⟨(eg_t5 (i := 25) (by decide +kernel) rfl), (eg_t5 (i := 26) (by decide +kernel) rfl)⟩
theorem wd_mtX1_copyFrom : (mtX1_copyFrom.1.cls ≠ "java/lang/invoke/MethodHandle" ∧ mtX1_copyFrom.1.cls ≠ "java/lang/invoke/VarHandle" ∧ (parseMethodDescriptor mtX1_copyFrom.1.desc).map (fun d => d.parameters.length) = some 1) ∧ mtX1_copyFrom.2.2.1 ≤ 21 := by decide +kernel
theorem wi_mtX2_begin : Cond.initialized mtX2_begin.1.cls ∈ eg_T ∧ Cond.code mtX2_begin.1 mtX2_begin.2.1 mtX2_begin.2.2.1 mtX2_begin.2.2.2 ∈ eg_T := ⟨(eg_t1 (i := 11) (by decide +kernel) rfl), (eg_t4 (i := 50) rfl rfl)⟩
theorem ws_mtX2_begin : Cond.instanceMethod mtX2_begin.1 ∈ eg_T ∧ Cond.selects mtX2_begin.1.cls mtX2_begin.1 mtX2_begin.1 ∈ eg_T := ⟨(eg_t4 (i := 48) (by decide +kernel) rfl), (eg_t4 (i := 49) (by decide +kernel) rfl)⟩
theorem wd_mtX2_begin : (mtX2_begin.1.cls ≠ "java/lang/invoke/MethodHandle" ∧ mtX2_begin.1.cls ≠ "java/lang/invoke/VarHandle" ∧ (parseMethodDescriptor mtX2_begin.1.desc).map (fun d => d.parameters.length) = some 1) ∧ mtX2_begin.2.2.1 ≤ 21 := by decide +kernel
theorem wi_mtX2_clearPlate : Cond.initialized mtX2_clearPlate.1.cls ∈ eg_T ∧ Cond.code mtX2_clearPlate.1 mtX2_clearPlate.2.1 mtX2_clearPlate.2.2.1 mtX2_clearPlate.2.2.2 ∈ eg_T := ⟨(eg_t1 (i := 11) (by decide +kernel) rfl), (eg_t4 (i := 55) rfl rfl)⟩
theorem ws_mtX2_clearPlate : Cond.instanceMethod mtX2_clearPlate.1 ∈ eg_T ∧ Cond.selects mtX2_clearPlate.1.cls mtX2_clearPlate.1 mtX2_clearPlate.1 ∈ eg_T := ⟨(eg_t4 (i := 53) (by decide +kernel) rfl), (eg_t4 (i := 54) (by decide +kernel) rfl)⟩
theorem wd_mtX2_clearPlate : (mtX2_clearPlate.1.cls ≠ "java/lang/invoke/MethodHandle" ∧ mtX2_clearPlate.1.cls ≠ "java/lang/invoke/VarHandle" ∧ (parseMethodDescriptor mtX2_clearPlate.1.desc).map (fun d => d.parameters.length) = some 1) ∧ mtX2_clearPlate.2.2.1 ≤ 21 := by decide +kernel
theorem wi_mtX2_copyFrom : Cond.initialized mtX2_copyFrom.1.cls ∈ eg_T ∧ Cond.code mtX2_copyFrom.1 mtX2_copyFrom.2.1 mtX2_copyFrom.2.2.1 mtX2_copyFrom.2.2.2 ∈ eg_T := ⟨(eg_t1 (i := 11) (by decide +kernel) rfl), (eg_t4 (i := 210) rfl rfl)⟩
theorem ws_mtX2_copyFrom : Cond.instanceMethod mtX2_copyFrom.1 ∈ eg_T ∧ Cond.selects mtX2_copyFrom.1.cls mtX2_copyFrom.1 mtX2_copyFrom.1 ∈ eg_T := ⟨(eg_t4 (i := 208) (by decide +kernel) rfl), (eg_t4 (i := 209) (by decide +kernel) rfl)⟩
theorem wd_mtX2_copyFrom : (mtX2_copyFrom.1.cls ≠ "java/lang/invoke/MethodHandle" ∧ mtX2_copyFrom.1.cls ≠ "java/lang/invoke/VarHandle" ∧ (parseMethodDescriptor mtX2_copyFrom.1.desc).map (fun d => d.parameters.length) = some 1) ∧ mtX2_copyFrom.2.2.1 ≤ 21 := by decide +kernel
theorem wi_mtX2_goWithout : Cond.initialized mtX2_goWithout.1.cls ∈ eg_T ∧ Cond.code mtX2_goWithout.1 mtX2_goWithout.2.1 mtX2_goWithout.2.2.1 mtX2_goWithout.2.2.2 ∈ eg_T := ⟨(eg_t1 (i := 11) (by decide +kernel) rfl), (eg_t4 (i := 171) rfl rfl)⟩
theorem ws_mtX2_goWithout : Cond.instanceMethod mtX2_goWithout.1 ∈ eg_T ∧ Cond.selects mtX2_goWithout.1.cls mtX2_goWithout.1 mtX2_goWithout.1 ∈ eg_T := ⟨(eg_t4 (i := 169) (by decide +kernel) rfl), (eg_t4 (i := 170) (by decide +kernel) rfl)⟩
theorem wd_mtX2_goWithout : (mtX2_goWithout.1.cls ≠ "java/lang/invoke/MethodHandle" ∧ mtX2_goWithout.1.cls ≠ "java/lang/invoke/VarHandle" ∧ (parseMethodDescriptor mtX2_goWithout.1.desc).map (fun d => d.parameters.length) = some 1) ∧ mtX2_goWithout.2.2.1 ≤ 21 := by decide +kernel
theorem wi_mtX2_wantsLeft : Cond.initialized mtX2_wantsLeft.1.cls ∈ eg_T ∧ Cond.code mtX2_wantsLeft.1 mtX2_wantsLeft.2.1 mtX2_wantsLeft.2.2.1 mtX2_wantsLeft.2.2.2 ∈ eg_T := ⟨(eg_t1 (i := 11) (by decide +kernel) rfl), (eg_t4 (i := 136) rfl rfl)⟩
theorem ws_mtX2_wantsLeft : Cond.instanceMethod mtX2_wantsLeft.1 ∈ eg_T ∧ Cond.selects mtX2_wantsLeft.1.cls mtX2_wantsLeft.1 mtX2_wantsLeft.1 ∈ eg_T := ⟨(eg_t4 (i := 134) (by decide +kernel) rfl), (eg_t4 (i := 135) (by decide +kernel) rfl)⟩
theorem wd_mtX2_wantsLeft : (mtX2_wantsLeft.1.cls ≠ "java/lang/invoke/MethodHandle" ∧ mtX2_wantsLeft.1.cls ≠ "java/lang/invoke/VarHandle" ∧ (parseMethodDescriptor mtX2_wantsLeft.1.desc).map (fun d => d.parameters.length) = some 0) ∧ mtX2_wantsLeft.2.2.1 ≤ 21 := by decide +kernel
theorem wi_mtX3_addKnot : Cond.initialized mtX3_addKnot.1.cls ∈ eg_T ∧ Cond.code mtX3_addKnot.1 mtX3_addKnot.2.1 mtX3_addKnot.2.2.1 mtX3_addKnot.2.2.2 ∈ eg_T := ⟨(eg_t1 (i := 5) (by decide +kernel) rfl), (eg_t4 (i := 3) rfl rfl)⟩
theorem ws_mtX3_addKnot : Cond.instanceMethod mtX3_addKnot.1 ∈ eg_T ∧ Cond.selects mtX3_addKnot.1.cls mtX3_addKnot.1 mtX3_addKnot.1 ∈ eg_T := ⟨(eg_t4 (i := 1) (by decide +kernel) rfl), (eg_t4 (i := 2) (by decide +kernel) rfl)⟩
theorem wd_mtX3_addKnot : (mtX3_addKnot.1.cls ≠ "java/lang/invoke/MethodHandle" ∧ mtX3_addKnot.1.cls ≠ "java/lang/invoke/VarHandle" ∧ (parseMethodDescriptor mtX3_addKnot.1.desc).map (fun d => d.parameters.length) = some 1) ∧ mtX3_addKnot.2.2.1 ≤ 21 := by decide +kernel
theorem wi_mtX3_addLaw : Cond.initialized mtX3_addLaw.1.cls ∈ eg_T ∧ Cond.code mtX3_addLaw.1 mtX3_addLaw.2.1 mtX3_addLaw.2.2.1 mtX3_addLaw.2.2.2 ∈ eg_T := ⟨(eg_t1 (i := 5) (by decide +kernel) rfl), (eg_t4 (i := 23) rfl rfl)⟩
theorem ws_mtX3_addLaw : Cond.instanceMethod mtX3_addLaw.1 ∈ eg_T ∧ Cond.selects mtX3_addLaw.1.cls mtX3_addLaw.1 mtX3_addLaw.1 ∈ eg_T := ⟨(eg_t4 (i := 21) (by decide +kernel) rfl), (eg_t4 (i := 22) (by decide +kernel) rfl)⟩
theorem wd_mtX3_addLaw : (mtX3_addLaw.1.cls ≠ "java/lang/invoke/MethodHandle" ∧ mtX3_addLaw.1.cls ≠ "java/lang/invoke/VarHandle" ∧ (parseMethodDescriptor mtX3_addLaw.1.desc).map (fun d => d.parameters.length) = some 1) ∧ mtX3_addLaw.2.2.1 ≤ 21 := by decide +kernel
theorem wi_mtX3_clear : Cond.initialized mtX3_clear.1.cls ∈ eg_T ∧ Cond.code mtX3_clear.1 mtX3_clear.2.1 mtX3_clear.2.2.1 mtX3_clear.2.2.2 ∈ eg_T := ⟨(eg_t1 (i := 5) (by decide +kernel) rfl), (eg_t2 (i := 109) rfl rfl)⟩
theorem ws_mtX3_clear : Cond.instanceMethod mtX3_clear.1 ∈ eg_T ∧ Cond.selects mtX3_clear.1.cls mtX3_clear.1 mtX3_clear.1 ∈ eg_T := ⟨(eg_t2 (i := 107) (by decide +kernel) rfl), (eg_t2 (i := 108) (by decide +kernel) rfl)⟩
theorem wd_mtX3_clear : (mtX3_clear.1.cls ≠ "java/lang/invoke/MethodHandle" ∧ mtX3_clear.1.cls ≠ "java/lang/invoke/VarHandle" ∧ (parseMethodDescriptor mtX3_clear.1.desc).map (fun d => d.parameters.length) = some 0) ∧ mtX3_clear.2.2.1 ≤ 21 := by decide +kernel
theorem wi_mtX3_combined : Cond.initialized mtX3_combined.1.cls ∈ eg_T ∧ Cond.code mtX3_combined.1 mtX3_combined.2.1 mtX3_combined.2.2.1 mtX3_combined.2.2.2 ∈ eg_T := ⟨(eg_t1 (i := 5) (by decide +kernel) rfl), (eg_t4 (i := 148) rfl rfl)⟩
theorem ws_mtX3_combined : Cond.static mtX3_combined.1 ∈ eg_T := (eg_t4 (i := 147) (by decide +kernel) rfl)
theorem wd_mtX3_combined : (mtX3_combined.1.cls ≠ "java/lang/invoke/MethodHandle" ∧ mtX3_combined.1.cls ≠ "java/lang/invoke/VarHandle" ∧ (parseMethodDescriptor mtX3_combined.1.desc).map (fun d => d.parameters.length) = some 3) ∧ mtX3_combined.2.2.1 ≤ 21 := by decide +kernel
theorem wi_mtX3_copyFrom : Cond.initialized mtX3_copyFrom.1.cls ∈ eg_T ∧ Cond.code mtX3_copyFrom.1 mtX3_copyFrom.2.1 mtX3_copyFrom.2.2.1 mtX3_copyFrom.2.2.2 ∈ eg_T := ⟨(eg_t1 (i := 5) (by decide +kernel) rfl), (eg_t5 (i := 37) rfl rfl)⟩
theorem ws_mtX3_copyFrom : Cond.instanceMethod mtX3_copyFrom.1 ∈ eg_T ∧ Cond.selects mtX3_copyFrom.1.cls mtX3_copyFrom.1 mtX3_copyFrom.1 ∈ eg_T := ⟨(eg_t5 (i := 35) (by decide +kernel) rfl), (eg_t5 (i := 36) (by decide +kernel) rfl)⟩
theorem wd_mtX3_copyFrom : (mtX3_copyFrom.1.cls ≠ "java/lang/invoke/MethodHandle" ∧ mtX3_copyFrom.1.cls ≠ "java/lang/invoke/VarHandle" ∧ (parseMethodDescriptor mtX3_copyFrom.1.desc).map (fun d => d.parameters.length) = some 1) ∧ mtX3_copyFrom.2.2.1 ≤ 21 := by decide +kernel
theorem wi_mtX3_setName : Cond.initialized mtX3_setName.1.cls ∈ eg_T ∧ Cond.code mtX3_setName.1 mtX3_setName.2.1 mtX3_setName.2.2.1 mtX3_setName.2.2.2 ∈ eg_T := ⟨(eg_t1 (i := 5) (by decide +kernel) rfl), (eg_t4 (i := 140) rfl rfl)⟩
theorem ws_mtX3_setName : Cond.instanceMethod mtX3_setName.1 ∈ eg_T ∧ Cond.selects mtX3_setName.1.cls mtX3_setName.1 mtX3_setName.1 ∈ eg_T := ⟨(eg_t4 (i := 138) (by decide +kernel) rfl), (eg_t4 (i := 139) (by decide +kernel) rfl)⟩
theorem wd_mtX3_setName : (mtX3_setName.1.cls ≠ "java/lang/invoke/MethodHandle" ∧ mtX3_setName.1.cls ≠ "java/lang/invoke/VarHandle" ∧ (parseMethodDescriptor mtX3_setName.1.desc).map (fun d => d.parameters.length) = some 2) ∧ mtX3_setName.2.2.1 ≤ 21 := by decide +kernel
theorem wi_mtX3_value : Cond.initialized mtX3_value.1.cls ∈ eg_T ∧ Cond.code mtX3_value.1 mtX3_value.2.1 mtX3_value.2.2.1 mtX3_value.2.2.2 ∈ eg_T := ⟨(eg_t1 (i := 5) (by decide +kernel) rfl), (eg_t4 (i := 144) rfl rfl)⟩
theorem ws_mtX3_value : Cond.instanceMethod mtX3_value.1 ∈ eg_T ∧ Cond.selects mtX3_value.1.cls mtX3_value.1 mtX3_value.1 ∈ eg_T := ⟨(eg_t4 (i := 142) (by decide +kernel) rfl), (eg_t4 (i := 143) (by decide +kernel) rfl)⟩
theorem wd_mtX3_value : (mtX3_value.1.cls ≠ "java/lang/invoke/MethodHandle" ∧ mtX3_value.1.cls ≠ "java/lang/invoke/VarHandle" ∧ (parseMethodDescriptor mtX3_value.1.desc).map (fun d => d.parameters.length) = some 1) ∧ mtX3_value.2.2.1 ≤ 21 := by decide +kernel
theorem wi_mtX4_addPan : Cond.initialized mtX4_addPan.1.cls ∈ eg_T ∧ Cond.code mtX4_addPan.1 mtX4_addPan.2.1 mtX4_addPan.2.2.1 mtX4_addPan.2.2.2 ∈ eg_T := ⟨(eg_t1 (i := 10) (by decide +kernel) rfl), (eg_t4 (i := 106) rfl rfl)⟩
theorem ws_mtX4_addPan : Cond.instanceMethod mtX4_addPan.1 ∈ eg_T ∧ Cond.selects mtX4_addPan.1.cls mtX4_addPan.1 mtX4_addPan.1 ∈ eg_T := ⟨(eg_t4 (i := 104) (by decide +kernel) rfl), (eg_t4 (i := 105) (by decide +kernel) rfl)⟩
theorem wd_mtX4_addPan : (mtX4_addPan.1.cls ≠ "java/lang/invoke/MethodHandle" ∧ mtX4_addPan.1.cls ≠ "java/lang/invoke/VarHandle" ∧ (parseMethodDescriptor mtX4_addPan.1.desc).map (fun d => d.parameters.length) = some 1) ∧ mtX4_addPan.2.2.1 ≤ 21 := by decide +kernel
theorem wi_mtX4_begin : Cond.initialized mtX4_begin.1.cls ∈ eg_T ∧ Cond.code mtX4_begin.1 mtX4_begin.2.1 mtX4_begin.2.2.1 mtX4_begin.2.2.2 ∈ eg_T := ⟨(eg_t1 (i := 10) (by decide +kernel) rfl), (eg_t4 (i := 46) rfl rfl)⟩
theorem ws_mtX4_begin : Cond.instanceMethod mtX4_begin.1 ∈ eg_T ∧ Cond.selects mtX4_begin.1.cls mtX4_begin.1 mtX4_begin.1 ∈ eg_T := ⟨(eg_t4 (i := 44) (by decide +kernel) rfl), (eg_t4 (i := 45) (by decide +kernel) rfl)⟩
theorem wd_mtX4_begin : (mtX4_begin.1.cls ≠ "java/lang/invoke/MethodHandle" ∧ mtX4_begin.1.cls ≠ "java/lang/invoke/VarHandle" ∧ (parseMethodDescriptor mtX4_begin.1.desc).map (fun d => d.parameters.length) = some 1) ∧ mtX4_begin.2.2.1 ≤ 21 := by decide +kernel
theorem wi_mtX4_copyFrom : Cond.initialized mtX4_copyFrom.1.cls ∈ eg_T ∧ Cond.code mtX4_copyFrom.1 mtX4_copyFrom.2.1 mtX4_copyFrom.2.2.1 mtX4_copyFrom.2.2.2 ∈ eg_T := ⟨(eg_t1 (i := 10) (by decide +kernel) rfl), (eg_t4 (i := 206) rfl rfl)⟩
theorem ws_mtX4_copyFrom : Cond.instanceMethod mtX4_copyFrom.1 ∈ eg_T ∧ Cond.selects mtX4_copyFrom.1.cls mtX4_copyFrom.1 mtX4_copyFrom.1 ∈ eg_T := ⟨(eg_t4 (i := 204) (by decide +kernel) rfl), (eg_t4 (i := 205) (by decide +kernel) rfl)⟩
theorem wd_mtX4_copyFrom : (mtX4_copyFrom.1.cls ≠ "java/lang/invoke/MethodHandle" ∧ mtX4_copyFrom.1.cls ≠ "java/lang/invoke/VarHandle" ∧ (parseMethodDescriptor mtX4_copyFrom.1.desc).map (fun d => d.parameters.length) = some 1) ∧ mtX4_copyFrom.2.2.1 ≤ 21 := by decide +kernel
theorem wi_mtX5_clear : Cond.initialized mtX5_clear.1.cls ∈ eg_T ∧ Cond.code mtX5_clear.1 mtX5_clear.2.1 mtX5_clear.2.2.1 mtX5_clear.2.2.2 ∈ eg_T := ⟨(eg_t1 (i := 4) (by decide +kernel) rfl), (eg_t2 (i := 105) rfl rfl)⟩
theorem ws_mtX5_clear : Cond.instanceMethod mtX5_clear.1 ∈ eg_T ∧ Cond.selects mtX5_clear.1.cls mtX5_clear.1 mtX5_clear.1 ∈ eg_T := ⟨(eg_t2 (i := 103) (by decide +kernel) rfl), (eg_t2 (i := 104) (by decide +kernel) rfl)⟩
theorem wd_mtX5_clear : (mtX5_clear.1.cls ≠ "java/lang/invoke/MethodHandle" ∧ mtX5_clear.1.cls ≠ "java/lang/invoke/VarHandle" ∧ (parseMethodDescriptor mtX5_clear.1.desc).map (fun d => d.parameters.length) = some 0) ∧ mtX5_clear.2.2.1 ≤ 21 := by decide +kernel
theorem wi_mtX5_copyFrom : Cond.initialized mtX5_copyFrom.1.cls ∈ eg_T ∧ Cond.code mtX5_copyFrom.1 mtX5_copyFrom.2.1 mtX5_copyFrom.2.2.1 mtX5_copyFrom.2.2.2 ∈ eg_T := ⟨(eg_t1 (i := 4) (by decide +kernel) rfl), (eg_t5 (i := 23) rfl rfl)⟩
theorem ws_mtX5_copyFrom : Cond.instanceMethod mtX5_copyFrom.1 ∈ eg_T ∧ Cond.selects mtX5_copyFrom.1.cls mtX5_copyFrom.1 mtX5_copyFrom.1 ∈ eg_T := ⟨(eg_t5 (i := 21) (by decide +kernel) rfl), (eg_t5 (i := 22) (by decide +kernel) rfl)⟩
theorem wd_mtX5_copyFrom : (mtX5_copyFrom.1.cls ≠ "java/lang/invoke/MethodHandle" ∧ mtX5_copyFrom.1.cls ≠ "java/lang/invoke/VarHandle" ∧ (parseMethodDescriptor mtX5_copyFrom.1.desc).map (fun d => d.parameters.length) = some 1) ∧ mtX5_copyFrom.2.2.1 ≤ 21 := by decide +kernel
theorem wi_mtX5_guestOf : Cond.initialized mtX5_guestOf.1.cls ∈ eg_T ∧ Cond.code mtX5_guestOf.1 mtX5_guestOf.2.1 mtX5_guestOf.2.2.1 mtX5_guestOf.2.2.2 ∈ eg_T := ⟨(eg_t1 (i := 4) (by decide +kernel) rfl), (eg_t3 (i := 192) rfl rfl)⟩
theorem ws_mtX5_guestOf : Cond.instanceMethod mtX5_guestOf.1 ∈ eg_T ∧ Cond.selects mtX5_guestOf.1.cls mtX5_guestOf.1 mtX5_guestOf.1 ∈ eg_T := ⟨(eg_t3 (i := 190) (by decide +kernel) rfl), (eg_t3 (i := 191) (by decide +kernel) rfl)⟩
theorem wd_mtX5_guestOf : (mtX5_guestOf.1.cls ≠ "java/lang/invoke/MethodHandle" ∧ mtX5_guestOf.1.cls ≠ "java/lang/invoke/VarHandle" ∧ (parseMethodDescriptor mtX5_guestOf.1.desc).map (fun d => d.parameters.length) = some 1) ∧ mtX5_guestOf.2.2.1 ≤ 21 := by decide +kernel
theorem wi_mtX5_hasGuest : Cond.initialized mtX5_hasGuest.1.cls ∈ eg_T ∧ Cond.code mtX5_hasGuest.1 mtX5_hasGuest.2.1 mtX5_hasGuest.2.2.1 mtX5_hasGuest.2.2.2 ∈ eg_T := ⟨(eg_t1 (i := 4) (by decide +kernel) rfl), (eg_t4 (i := 235) rfl rfl)⟩
theorem ws_mtX5_hasGuest : Cond.instanceMethod mtX5_hasGuest.1 ∈ eg_T ∧ Cond.selects mtX5_hasGuest.1.cls mtX5_hasGuest.1 mtX5_hasGuest.1 ∈ eg_T := ⟨(eg_t4 (i := 233) (by decide +kernel) rfl), (eg_t4 (i := 234) (by decide +kernel) rfl)⟩
theorem wd_mtX5_hasGuest : (mtX5_hasGuest.1.cls ≠ "java/lang/invoke/MethodHandle" ∧ mtX5_hasGuest.1.cls ≠ "java/lang/invoke/VarHandle" ∧ (parseMethodDescriptor mtX5_hasGuest.1.desc).map (fun d => d.parameters.length) = some 1) ∧ mtX5_hasGuest.2.2.1 ≤ 21 := by decide +kernel
theorem wi_mtX5_hasPan : Cond.initialized mtX5_hasPan.1.cls ∈ eg_T ∧ Cond.code mtX5_hasPan.1 mtX5_hasPan.2.1 mtX5_hasPan.2.2.1 mtX5_hasPan.2.2.2 ∈ eg_T := ⟨(eg_t1 (i := 4) (by decide +kernel) rfl), (eg_t4 (i := 78) rfl rfl)⟩
theorem ws_mtX5_hasPan : Cond.instanceMethod mtX5_hasPan.1 ∈ eg_T ∧ Cond.selects mtX5_hasPan.1.cls mtX5_hasPan.1 mtX5_hasPan.1 ∈ eg_T := ⟨(eg_t4 (i := 76) (by decide +kernel) rfl), (eg_t4 (i := 77) (by decide +kernel) rfl)⟩
theorem wd_mtX5_hasPan : (mtX5_hasPan.1.cls ≠ "java/lang/invoke/MethodHandle" ∧ mtX5_hasPan.1.cls ≠ "java/lang/invoke/VarHandle" ∧ (parseMethodDescriptor mtX5_hasPan.1.desc).map (fun d => d.parameters.length) = some 1) ∧ mtX5_hasPan.2.2.1 ≤ 21 := by decide +kernel
theorem wi_mtX5_hasStation : Cond.initialized mtX5_hasStation.1.cls ∈ eg_T ∧ Cond.code mtX5_hasStation.1 mtX5_hasStation.2.1 mtX5_hasStation.2.2.1 mtX5_hasStation.2.2.2 ∈ eg_T := ⟨(eg_t1 (i := 4) (by decide +kernel) rfl), (eg_t4 (i := 74) rfl rfl)⟩
theorem ws_mtX5_hasStation : Cond.instanceMethod mtX5_hasStation.1 ∈ eg_T ∧ Cond.selects mtX5_hasStation.1.cls mtX5_hasStation.1 mtX5_hasStation.1 ∈ eg_T := ⟨(eg_t4 (i := 72) (by decide +kernel) rfl), (eg_t4 (i := 73) (by decide +kernel) rfl)⟩
theorem wd_mtX5_hasStation : (mtX5_hasStation.1.cls ≠ "java/lang/invoke/MethodHandle" ∧ mtX5_hasStation.1.cls ≠ "java/lang/invoke/VarHandle" ∧ (parseMethodDescriptor mtX5_hasStation.1.desc).map (fun d => d.parameters.length) = some 1) ∧ mtX5_hasStation.2.2.1 ≤ 21 := by decide +kernel
theorem wi_mtX5_mayOf : Cond.initialized mtX5_mayOf.1.cls ∈ eg_T ∧ Cond.code mtX5_mayOf.1 mtX5_mayOf.2.1 mtX5_mayOf.2.2.1 mtX5_mayOf.2.2.2 ∈ eg_T := ⟨(eg_t1 (i := 4) (by decide +kernel) rfl), (eg_t3 (i := 196) rfl rfl)⟩
theorem ws_mtX5_mayOf : Cond.instanceMethod mtX5_mayOf.1 ∈ eg_T ∧ Cond.selects mtX5_mayOf.1.cls mtX5_mayOf.1 mtX5_mayOf.1 ∈ eg_T := ⟨(eg_t3 (i := 194) (by decide +kernel) rfl), (eg_t3 (i := 195) (by decide +kernel) rfl)⟩
theorem wd_mtX5_mayOf : (mtX5_mayOf.1.cls ≠ "java/lang/invoke/MethodHandle" ∧ mtX5_mayOf.1.cls ≠ "java/lang/invoke/VarHandle" ∧ (parseMethodDescriptor mtX5_mayOf.1.desc).map (fun d => d.parameters.length) = some 1) ∧ mtX5_mayOf.2.2.1 ≤ 21 := by decide +kernel
theorem wi_mtX5_stationOf : Cond.initialized mtX5_stationOf.1.cls ∈ eg_T ∧ Cond.code mtX5_stationOf.1 mtX5_stationOf.2.1 mtX5_stationOf.2.2.1 mtX5_stationOf.2.2.2 ∈ eg_T := ⟨(eg_t1 (i := 4) (by decide +kernel) rfl), (eg_t3 (i := 188) rfl rfl)⟩
theorem ws_mtX5_stationOf : Cond.instanceMethod mtX5_stationOf.1 ∈ eg_T ∧ Cond.selects mtX5_stationOf.1.cls mtX5_stationOf.1 mtX5_stationOf.1 ∈ eg_T := ⟨(eg_t3 (i := 186) (by decide +kernel) rfl), (eg_t3 (i := 187) (by decide +kernel) rfl)⟩
theorem wd_mtX5_stationOf : (mtX5_stationOf.1.cls ≠ "java/lang/invoke/MethodHandle" ∧ mtX5_stationOf.1.cls ≠ "java/lang/invoke/VarHandle" ∧ (parseMethodDescriptor mtX5_stationOf.1.desc).map (fun d => d.parameters.length) = some 1) ∧ mtX5_stationOf.2.2.1 ≤ 21 := by decide +kernel
theorem wi_mtX6_atEnd : Cond.initialized mtX6_atEnd.1.cls ∈ eg_T ∧ Cond.code mtX6_atEnd.1 mtX6_atEnd.2.1 mtX6_atEnd.2.2.1 mtX6_atEnd.2.2.2 ∈ eg_T := ⟨(eg_t1 (i := 2) (by decide +kernel) rfl), (eg_t3 (i := 163) rfl rfl)⟩
theorem ws_mtX6_atEnd : Cond.instanceMethod mtX6_atEnd.1 ∈ eg_T ∧ Cond.selects mtX6_atEnd.1.cls mtX6_atEnd.1 mtX6_atEnd.1 ∈ eg_T := ⟨(eg_t3 (i := 161) (by decide +kernel) rfl), (eg_t3 (i := 162) (by decide +kernel) rfl)⟩
theorem wd_mtX6_atEnd : (mtX6_atEnd.1.cls ≠ "java/lang/invoke/MethodHandle" ∧ mtX6_atEnd.1.cls ≠ "java/lang/invoke/VarHandle" ∧ (parseMethodDescriptor mtX6_atEnd.1.desc).map (fun d => d.parameters.length) = some 0) ∧ mtX6_atEnd.2.2.1 ≤ 21 := by decide +kernel
theorem wi_mtX6_begin : Cond.initialized mtX6_begin.1.cls ∈ eg_T ∧ Cond.code mtX6_begin.1 mtX6_begin.2.1 mtX6_begin.2.2.1 mtX6_begin.2.2.2 ∈ eg_T := ⟨(eg_t1 (i := 2) (by decide +kernel) rfl), (eg_t3 (i := 85) rfl rfl)⟩
theorem ws_mtX6_begin : Cond.instanceMethod mtX6_begin.1 ∈ eg_T ∧ Cond.selects mtX6_begin.1.cls mtX6_begin.1 mtX6_begin.1 ∈ eg_T := ⟨(eg_t3 (i := 83) (by decide +kernel) rfl), (eg_t3 (i := 84) (by decide +kernel) rfl)⟩
theorem wd_mtX6_begin : (mtX6_begin.1.cls ≠ "java/lang/invoke/MethodHandle" ∧ mtX6_begin.1.cls ≠ "java/lang/invoke/VarHandle" ∧ (parseMethodDescriptor mtX6_begin.1.desc).map (fun d => d.parameters.length) = some 2) ∧ mtX6_begin.2.2.1 ≤ 21 := by decide +kernel
theorem wi_mtX6_countKnot : Cond.initialized mtX6_countKnot.1.cls ∈ eg_T ∧ Cond.code mtX6_countKnot.1 mtX6_countKnot.2.1 mtX6_countKnot.2.2.1 mtX6_countKnot.2.2.2 ∈ eg_T := ⟨(eg_t1 (i := 2) (by decide +kernel) rfl), (eg_t4 (i := 15) rfl rfl)⟩
theorem ws_mtX6_countKnot : Cond.instanceMethod mtX6_countKnot.1 ∈ eg_T ∧ Cond.selects mtX6_countKnot.1.cls mtX6_countKnot.1 mtX6_countKnot.1 ∈ eg_T := ⟨(eg_t4 (i := 14) (by decide +kernel) rfl), (eg_t0 (i := 19) (by decide +kernel))⟩
theorem wd_mtX6_countKnot : (mtX6_countKnot.1.cls ≠ "java/lang/invoke/MethodHandle" ∧ mtX6_countKnot.1.cls ≠ "java/lang/invoke/VarHandle" ∧ (parseMethodDescriptor mtX6_countKnot.1.desc).map (fun d => d.parameters.length) = some 0) ∧ mtX6_countKnot.2.2.1 ≤ 21 := by decide +kernel
theorem wi_mtX6_endLine : Cond.initialized mtX6_endLine.1.cls ∈ eg_T ∧ Cond.code mtX6_endLine.1 mtX6_endLine.2.1 mtX6_endLine.2.2.1 mtX6_endLine.2.2.2 ∈ eg_T := ⟨(eg_t1 (i := 2) (by decide +kernel) rfl), (eg_t4 (i := 31) rfl rfl)⟩
theorem ws_mtX6_endLine : Cond.instanceMethod mtX6_endLine.1 ∈ eg_T ∧ Cond.selects mtX6_endLine.1.cls mtX6_endLine.1 mtX6_endLine.1 ∈ eg_T := ⟨(eg_t4 (i := 29) (by decide +kernel) rfl), (eg_t4 (i := 30) (by decide +kernel) rfl)⟩
theorem wd_mtX6_endLine : (mtX6_endLine.1.cls ≠ "java/lang/invoke/MethodHandle" ∧ mtX6_endLine.1.cls ≠ "java/lang/invoke/VarHandle" ∧ (parseMethodDescriptor mtX6_endLine.1.desc).map (fun d => d.parameters.length) = some 0) ∧ mtX6_endLine.2.2.1 ≤ 21 := by decide +kernel
theorem wi_mtX6_holdSign : Cond.initialized mtX6_holdSign.1.cls ∈ eg_T ∧ Cond.code mtX6_holdSign.1 mtX6_holdSign.2.1 mtX6_holdSign.2.2.1 mtX6_holdSign.2.2.2 ∈ eg_T := ⟨(eg_t1 (i := 2) (by decide +kernel) rfl), (eg_t4 (i := 11) rfl rfl)⟩
theorem ws_mtX6_holdSign : Cond.instanceMethod mtX6_holdSign.1 ∈ eg_T ∧ Cond.selects mtX6_holdSign.1.cls mtX6_holdSign.1 mtX6_holdSign.1 ∈ eg_T := ⟨(eg_t4 (i := 10) (by decide +kernel) rfl), (eg_t0 (i := 18) (by decide +kernel))⟩
theorem wd_mtX6_holdSign : (mtX6_holdSign.1.cls ≠ "java/lang/invoke/MethodHandle" ∧ mtX6_holdSign.1.cls ≠ "java/lang/invoke/VarHandle" ∧ (parseMethodDescriptor mtX6_holdSign.1.desc).map (fun d => d.parameters.length) = some 1) ∧ mtX6_holdSign.2.2.1 ≤ 21 := by decide +kernel
theorem wi_mtX6_rankOf : Cond.initialized mtX6_rankOf.1.cls ∈ eg_T ∧ Cond.code mtX6_rankOf.1 mtX6_rankOf.2.1 mtX6_rankOf.2.2.1 mtX6_rankOf.2.2.2 ∈ eg_T := ⟨(eg_t1 (i := 2) (by decide +kernel) rfl), (eg_t3 (i := 239) rfl rfl)⟩
theorem ws_mtX6_rankOf : Cond.static mtX6_rankOf.1 ∈ eg_T := (eg_t3 (i := 238) (by decide +kernel) rfl)
theorem wd_mtX6_rankOf : (mtX6_rankOf.1.cls ≠ "java/lang/invoke/MethodHandle" ∧ mtX6_rankOf.1.cls ≠ "java/lang/invoke/VarHandle" ∧ (parseMethodDescriptor mtX6_rankOf.1.desc).map (fun d => d.parameters.length) = some 1) ∧ mtX6_rankOf.2.2.1 ≤ 21 := by decide +kernel
theorem wi_mtX6_readAgain : Cond.initialized mtX6_readAgain.1.cls ∈ eg_T ∧ Cond.code mtX6_readAgain.1 mtX6_readAgain.2.1 mtX6_readAgain.2.2.1 mtX6_readAgain.2.2.2 ∈ eg_T := ⟨(eg_t1 (i := 2) (by decide +kernel) rfl), (eg_t3 (i := 220) rfl rfl)⟩
theorem ws_mtX6_readAgain : Cond.instanceMethod mtX6_readAgain.1 ∈ eg_T ∧ Cond.selects mtX6_readAgain.1.cls mtX6_readAgain.1 mtX6_readAgain.1 ∈ eg_T := ⟨(eg_t3 (i := 219) (by decide +kernel) rfl), (eg_t0 (i := 12) (by decide +kernel))⟩
theorem wd_mtX6_readAgain : (mtX6_readAgain.1.cls ≠ "java/lang/invoke/MethodHandle" ∧ mtX6_readAgain.1.cls ≠ "java/lang/invoke/VarHandle" ∧ (parseMethodDescriptor mtX6_readAgain.1.desc).map (fun d => d.parameters.length) = some 0) ∧ mtX6_readAgain.2.2.1 ≤ 21 := by decide +kernel
theorem wi_mtX6_readBehindValue : Cond.initialized mtX6_readBehindValue.1.cls ∈ eg_T ∧ Cond.code mtX6_readBehindValue.1 mtX6_readBehindValue.2.1 mtX6_readBehindValue.2.2.1 mtX6_readBehindValue.2.2.2 ∈ eg_T := ⟨(eg_t1 (i := 2) (by decide +kernel) rfl), (eg_t4 (i := 19) rfl rfl)⟩
theorem ws_mtX6_readBehindValue : Cond.instanceMethod mtX6_readBehindValue.1 ∈ eg_T ∧ Cond.selects mtX6_readBehindValue.1.cls mtX6_readBehindValue.1 mtX6_readBehindValue.1 ∈ eg_T := ⟨(eg_t4 (i := 18) (by decide +kernel) rfl), (eg_t0 (i := 20) (by decide +kernel))⟩
theorem wd_mtX6_readBehindValue : (mtX6_readBehindValue.1.cls ≠ "java/lang/invoke/MethodHandle" ∧ mtX6_readBehindValue.1.cls ≠ "java/lang/invoke/VarHandle" ∧ (parseMethodDescriptor mtX6_readBehindValue.1.desc).map (fun d => d.parameters.length) = some 0) ∧ mtX6_readBehindValue.2.2.1 ≤ 21 := by decide +kernel
theorem wi_mtX6_readClose : Cond.initialized mtX6_readClose.1.cls ∈ eg_T ∧ Cond.code mtX6_readClose.1 mtX6_readClose.2.1 mtX6_readClose.2.2.1 mtX6_readClose.2.2.2 ∈ eg_T := ⟨(eg_t1 (i := 2) (by decide +kernel) rfl), (eg_t3 (i := 224) rfl rfl)⟩
theorem ws_mtX6_readClose : Cond.instanceMethod mtX6_readClose.1 ∈ eg_T ∧ Cond.selects mtX6_readClose.1.cls mtX6_readClose.1 mtX6_readClose.1 ∈ eg_T := ⟨(eg_t3 (i := 223) (by decide +kernel) rfl), (eg_t0 (i := 13) (by decide +kernel))⟩
theorem wd_mtX6_readClose : (mtX6_readClose.1.cls ≠ "java/lang/invoke/MethodHandle" ∧ mtX6_readClose.1.cls ≠ "java/lang/invoke/VarHandle" ∧ (parseMethodDescriptor mtX6_readClose.1.desc).map (fun d => d.parameters.length) = some 0) ∧ mtX6_readClose.2.2.1 ≤ 21 := by decide +kernel
theorem wi_mtX6_readExpression : Cond.initialized mtX6_readExpression.1.cls ∈ eg_T ∧ Cond.code mtX6_readExpression.1 mtX6_readExpression.2.1 mtX6_readExpression.2.2.1 mtX6_readExpression.2.2.2 ∈ eg_T := ⟨(eg_t1 (i := 2) (by decide +kernel) rfl), (eg_t3 (i := 232) rfl rfl)⟩
theorem ws_mtX6_readExpression : Cond.instanceMethod mtX6_readExpression.1 ∈ eg_T ∧ Cond.selects mtX6_readExpression.1.cls mtX6_readExpression.1 mtX6_readExpression.1 ∈ eg_T := ⟨(eg_t3 (i := 231) (by decide +kernel) rfl), (eg_t0 (i := 15) (by decide +kernel))⟩
theorem wd_mtX6_readExpression : (mtX6_readExpression.1.cls ≠ "java/lang/invoke/MethodHandle" ∧ mtX6_readExpression.1.cls ≠ "java/lang/invoke/VarHandle" ∧ (parseMethodDescriptor mtX6_readExpression.1.desc).map (fun d => d.parameters.length) = some 0) ∧ mtX6_readExpression.2.2.1 ≤ 21 := by decide +kernel
theorem wi_mtX6_readGuest : Cond.initialized mtX6_readGuest.1.cls ∈ eg_T ∧ Cond.code mtX6_readGuest.1 mtX6_readGuest.2.1 mtX6_readGuest.2.2.1 mtX6_readGuest.2.2.2 ∈ eg_T := ⟨(eg_t1 (i := 2) (by decide +kernel) rfl), (eg_t3 (i := 204) rfl rfl)⟩
theorem ws_mtX6_readGuest : Cond.instanceMethod mtX6_readGuest.1 ∈ eg_T ∧ Cond.selects mtX6_readGuest.1.cls mtX6_readGuest.1 mtX6_readGuest.1 ∈ eg_T := ⟨(eg_t3 (i := 203) (by decide +kernel) rfl), (eg_t0 (i := 9) (by decide +kernel))⟩
theorem wd_mtX6_readGuest : (mtX6_readGuest.1.cls ≠ "java/lang/invoke/MethodHandle" ∧ mtX6_readGuest.1.cls ≠ "java/lang/invoke/VarHandle" ∧ (parseMethodDescriptor mtX6_readGuest.1.desc).map (fun d => d.parameters.length) = some 0) ∧ mtX6_readGuest.2.2.1 ≤ 21 := by decide +kernel
theorem wi_mtX6_readLaw : Cond.initialized mtX6_readLaw.1.cls ∈ eg_T ∧ Cond.code mtX6_readLaw.1 mtX6_readLaw.2.1 mtX6_readLaw.2.2.1 mtX6_readLaw.2.2.2 ∈ eg_T := ⟨(eg_t1 (i := 2) (by decide +kernel) rfl), (eg_t3 (i := 228) rfl rfl)⟩
theorem ws_mtX6_readLaw : Cond.instanceMethod mtX6_readLaw.1 ∈ eg_T ∧ Cond.selects mtX6_readLaw.1.cls mtX6_readLaw.1 mtX6_readLaw.1 ∈ eg_T := ⟨(eg_t3 (i := 227) (by decide +kernel) rfl), (eg_t0 (i := 14) (by decide +kernel))⟩
theorem wd_mtX6_readLaw : (mtX6_readLaw.1.cls ≠ "java/lang/invoke/MethodHandle" ∧ mtX6_readLaw.1.cls ≠ "java/lang/invoke/VarHandle" ∧ (parseMethodDescriptor mtX6_readLaw.1.desc).map (fun d => d.parameters.length) = some 0) ∧ mtX6_readLaw.2.2.1 ≤ 21 := by decide +kernel
theorem wi_mtX6_readLine : Cond.initialized mtX6_readLine.1.cls ∈ eg_T ∧ Cond.code mtX6_readLine.1 mtX6_readLine.2.1 mtX6_readLine.2.2.1 mtX6_readLine.2.2.2 ∈ eg_T := ⟨(eg_t1 (i := 2) (by decide +kernel) rfl), (eg_t3 (i := 167) rfl rfl)⟩
theorem ws_mtX6_readLine : Cond.instanceMethod mtX6_readLine.1 ∈ eg_T ∧ Cond.selects mtX6_readLine.1.cls mtX6_readLine.1 mtX6_readLine.1 ∈ eg_T := ⟨(eg_t3 (i := 165) (by decide +kernel) rfl), (eg_t3 (i := 166) (by decide +kernel) rfl)⟩
theorem wd_mtX6_readLine : (mtX6_readLine.1.cls ≠ "java/lang/invoke/MethodHandle" ∧ mtX6_readLine.1.cls ≠ "java/lang/invoke/VarHandle" ∧ (parseMethodDescriptor mtX6_readLine.1.desc).map (fun d => d.parameters.length) = some 0) ∧ mtX6_readLine.2.2.1 ≤ 21 := by decide +kernel
theorem wi_mtX6_readMay : Cond.initialized mtX6_readMay.1.cls ∈ eg_T ∧ Cond.code mtX6_readMay.1 mtX6_readMay.2.1 mtX6_readMay.2.2.1 mtX6_readMay.2.2.2 ∈ eg_T := ⟨(eg_t1 (i := 2) (by decide +kernel) rfl), (eg_t4 (i := 27) rfl rfl)⟩
theorem ws_mtX6_readMay : Cond.instanceMethod mtX6_readMay.1 ∈ eg_T ∧ Cond.selects mtX6_readMay.1.cls mtX6_readMay.1 mtX6_readMay.1 ∈ eg_T := ⟨(eg_t4 (i := 26) (by decide +kernel) rfl), (eg_t0 (i := 21) (by decide +kernel))⟩
theorem wd_mtX6_readMay : (mtX6_readMay.1.cls ≠ "java/lang/invoke/MethodHandle" ∧ mtX6_readMay.1.cls ≠ "java/lang/invoke/VarHandle" ∧ (parseMethodDescriptor mtX6_readMay.1.desc).map (fun d => d.parameters.length) = some 0) ∧ mtX6_readMay.2.2.1 ≤ 21 := by decide +kernel
theorem wi_mtX6_readNewName : Cond.initialized mtX6_readNewName.1.cls ∈ eg_T ∧ Cond.code mtX6_readNewName.1 mtX6_readNewName.2.1 mtX6_readNewName.2.2.1 mtX6_readNewName.2.2.2 ∈ eg_T := ⟨(eg_t1 (i := 2) (by decide +kernel) rfl), (eg_t3 (i := 184) rfl rfl)⟩
theorem ws_mtX6_readNewName : Cond.instanceMethod mtX6_readNewName.1 ∈ eg_T ∧ Cond.selects mtX6_readNewName.1.cls mtX6_readNewName.1 mtX6_readNewName.1 ∈ eg_T := ⟨(eg_t3 (i := 183) (by decide +kernel) rfl), (eg_t0 (i := 7) (by decide +kernel))⟩
theorem wd_mtX6_readNewName : (mtX6_readNewName.1.cls ≠ "java/lang/invoke/MethodHandle" ∧ mtX6_readNewName.1.cls ≠ "java/lang/invoke/VarHandle" ∧ (parseMethodDescriptor mtX6_readNewName.1.desc).map (fun d => d.parameters.length) = some 1) ∧ mtX6_readNewName.2.2.1 ≤ 21 := by decide +kernel
theorem wi_mtX6_readNumber : Cond.initialized mtX6_readNumber.1.cls ∈ eg_T ∧ Cond.code mtX6_readNumber.1 mtX6_readNumber.2.1 mtX6_readNumber.2.2.1 mtX6_readNumber.2.2.2 ∈ eg_T := ⟨(eg_t1 (i := 2) (by decide +kernel) rfl), (eg_t3 (i := 200) rfl rfl)⟩
theorem ws_mtX6_readNumber : Cond.instanceMethod mtX6_readNumber.1 ∈ eg_T ∧ Cond.selects mtX6_readNumber.1.cls mtX6_readNumber.1 mtX6_readNumber.1 ∈ eg_T := ⟨(eg_t3 (i := 199) (by decide +kernel) rfl), (eg_t0 (i := 8) (by decide +kernel))⟩
theorem wd_mtX6_readNumber : (mtX6_readNumber.1.cls ≠ "java/lang/invoke/MethodHandle" ∧ mtX6_readNumber.1.cls ≠ "java/lang/invoke/VarHandle" ∧ (parseMethodDescriptor mtX6_readNumber.1.desc).map (fun d => d.parameters.length) = some 2) ∧ mtX6_readNumber.2.2.1 ≤ 21 := by decide +kernel
theorem wi_mtX6_readPass : Cond.initialized mtX6_readPass.1.cls ∈ eg_T ∧ Cond.code mtX6_readPass.1 mtX6_readPass.2.1 mtX6_readPass.2.2.1 mtX6_readPass.2.2.2 ∈ eg_T := ⟨(eg_t1 (i := 2) (by decide +kernel) rfl), (eg_t3 (i := 216) rfl rfl)⟩
theorem ws_mtX6_readPass : Cond.instanceMethod mtX6_readPass.1 ∈ eg_T ∧ Cond.selects mtX6_readPass.1.cls mtX6_readPass.1 mtX6_readPass.1 ∈ eg_T := ⟨(eg_t3 (i := 215) (by decide +kernel) rfl), (eg_t0 (i := 11) (by decide +kernel))⟩
theorem wd_mtX6_readPass : (mtX6_readPass.1.cls ≠ "java/lang/invoke/MethodHandle" ∧ mtX6_readPass.1.cls ≠ "java/lang/invoke/VarHandle" ∧ (parseMethodDescriptor mtX6_readPass.1.desc).map (fun d => d.parameters.length) = some 0) ∧ mtX6_readPass.2.2.1 ≤ 21 := by decide +kernel
theorem wi_mtX6_readStation : Cond.initialized mtX6_readStation.1.cls ∈ eg_T ∧ Cond.code mtX6_readStation.1 mtX6_readStation.2.1 mtX6_readStation.2.2.1 mtX6_readStation.2.2.2 ∈ eg_T := ⟨(eg_t1 (i := 2) (by decide +kernel) rfl), (eg_t3 (i := 171) rfl rfl)⟩
theorem ws_mtX6_readStation : Cond.instanceMethod mtX6_readStation.1 ∈ eg_T ∧ Cond.selects mtX6_readStation.1.cls mtX6_readStation.1 mtX6_readStation.1 ∈ eg_T := ⟨(eg_t3 (i := 170) (by decide +kernel) rfl), (eg_t0 (i := 5) (by decide +kernel))⟩
theorem wd_mtX6_readStation : (mtX6_readStation.1.cls ≠ "java/lang/invoke/MethodHandle" ∧ mtX6_readStation.1.cls ≠ "java/lang/invoke/VarHandle" ∧ (parseMethodDescriptor mtX6_readStation.1.desc).map (fun d => d.parameters.length) = some 0) ∧ mtX6_readStation.2.2.1 ≤ 21 := by decide +kernel
theorem wi_mtX6_readValue : Cond.initialized mtX6_readValue.1.cls ∈ eg_T ∧ Cond.code mtX6_readValue.1 mtX6_readValue.2.1 mtX6_readValue.2.2.1 mtX6_readValue.2.2.2 ∈ eg_T := ⟨(eg_t1 (i := 2) (by decide +kernel) rfl), (eg_t4 (i := 7) rfl rfl)⟩
theorem ws_mtX6_readValue : Cond.instanceMethod mtX6_readValue.1 ∈ eg_T ∧ Cond.selects mtX6_readValue.1.cls mtX6_readValue.1 mtX6_readValue.1 ∈ eg_T := ⟨(eg_t4 (i := 6) (by decide +kernel) rfl), (eg_t0 (i := 17) (by decide +kernel))⟩
theorem wd_mtX6_readValue : (mtX6_readValue.1.cls ≠ "java/lang/invoke/MethodHandle" ∧ mtX6_readValue.1.cls ≠ "java/lang/invoke/VarHandle" ∧ (parseMethodDescriptor mtX6_readValue.1.desc).map (fun d => d.parameters.length) = some 0) ∧ mtX6_readValue.2.2.1 ≤ 21 := by decide +kernel
theorem wi_mtX6_refuse : Cond.initialized mtX6_refuse.1.cls ∈ eg_T ∧ Cond.code mtX6_refuse.1 mtX6_refuse.2.1 mtX6_refuse.2.2.1 mtX6_refuse.2.2.2 ∈ eg_T := ⟨(eg_t1 (i := 2) (by decide +kernel) rfl), (eg_t3 (i := 175) rfl rfl)⟩
theorem ws_mtX6_refuse : Cond.instanceMethod mtX6_refuse.1 ∈ eg_T ∧ Cond.selects mtX6_refuse.1.cls mtX6_refuse.1 mtX6_refuse.1 ∈ eg_T := ⟨(eg_t3 (i := 174) (by decide +kernel) rfl), (eg_t0 (i := 6) (by decide +kernel))⟩
theorem wd_mtX6_refuse : (mtX6_refuse.1.cls ≠ "java/lang/invoke/MethodHandle" ∧ mtX6_refuse.1.cls ≠ "java/lang/invoke/VarHandle" ∧ (parseMethodDescriptor mtX6_refuse.1.desc).map (fun d => d.parameters.length) = some 1) ∧ mtX6_refuse.2.2.1 ≤ 21 := by decide +kernel
theorem wi_mtX6_releaseSigns : Cond.initialized mtX6_releaseSigns.1.cls ∈ eg_T ∧ Cond.code mtX6_releaseSigns.1 mtX6_releaseSigns.2.1 mtX6_releaseSigns.2.2.1 mtX6_releaseSigns.2.2.2 ∈ eg_T := ⟨(eg_t1 (i := 2) (by decide +kernel) rfl), (eg_t3 (i := 236) rfl rfl)⟩
theorem ws_mtX6_releaseSigns : Cond.instanceMethod mtX6_releaseSigns.1 ∈ eg_T ∧ Cond.selects mtX6_releaseSigns.1.cls mtX6_releaseSigns.1 mtX6_releaseSigns.1 ∈ eg_T := ⟨(eg_t3 (i := 235) (by decide +kernel) rfl), (eg_t0 (i := 16) (by decide +kernel))⟩
theorem wd_mtX6_releaseSigns : (mtX6_releaseSigns.1.cls ≠ "java/lang/invoke/MethodHandle" ∧ mtX6_releaseSigns.1.cls ≠ "java/lang/invoke/VarHandle" ∧ (parseMethodDescriptor mtX6_releaseSigns.1.desc).map (fun d => d.parameters.length) = some 1) ∧ mtX6_releaseSigns.2.2.1 ≤ 21 := by decide +kernel
theorem wi_mtX6_wantedStation : Cond.initialized mtX6_wantedStation.1.cls ∈ eg_T ∧ Cond.code mtX6_wantedStation.1 mtX6_wantedStation.2.1 mtX6_wantedStation.2.2.1 mtX6_wantedStation.2.2.2 ∈ eg_T := ⟨(eg_t1 (i := 2) (by decide +kernel) rfl), (eg_t3 (i := 212) rfl rfl)⟩
theorem ws_mtX6_wantedStation : Cond.instanceMethod mtX6_wantedStation.1 ∈ eg_T ∧ Cond.selects mtX6_wantedStation.1.cls mtX6_wantedStation.1 mtX6_wantedStation.1 ∈ eg_T := ⟨(eg_t3 (i := 211) (by decide +kernel) rfl), (eg_t0 (i := 10) (by decide +kernel))⟩
theorem wd_mtX6_wantedStation : (mtX6_wantedStation.1.cls ≠ "java/lang/invoke/MethodHandle" ∧ mtX6_wantedStation.1.cls ≠ "java/lang/invoke/VarHandle" ∧ (parseMethodDescriptor mtX6_wantedStation.1.desc).map (fun d => d.parameters.length) = some 1) ∧ mtX6_wantedStation.2.2.1 ≤ 21 := by decide +kernel
theorem wi_mtX7_admitGuests : Cond.initialized mtX7_admitGuests.1.cls ∈ eg_T ∧ Cond.code mtX7_admitGuests.1 mtX7_admitGuests.2.1 mtX7_admitGuests.2.2.1 mtX7_admitGuests.2.2.2 ∈ eg_T := ⟨(eg_t1 (i := 9) (by decide +kernel) rfl), (eg_t4 (i := 110) rfl rfl)⟩
theorem ws_mtX7_admitGuests : Cond.instanceMethod mtX7_admitGuests.1 ∈ eg_T ∧ Cond.selects mtX7_admitGuests.1.cls mtX7_admitGuests.1 mtX7_admitGuests.1 ∈ eg_T := ⟨(eg_t4 (i := 109) (by decide +kernel) rfl), (eg_t0 (i := 24) (by decide +kernel))⟩
theorem wd_mtX7_admitGuests : (mtX7_admitGuests.1.cls ≠ "java/lang/invoke/MethodHandle" ∧ mtX7_admitGuests.1.cls ≠ "java/lang/invoke/VarHandle" ∧ (parseMethodDescriptor mtX7_admitGuests.1.desc).map (fun d => d.parameters.length) = some 0) ∧ mtX7_admitGuests.2.2.1 ≤ 21 := by decide +kernel
theorem wi_mtX7_begin : Cond.initialized mtX7_begin.1.cls ∈ eg_T ∧ Cond.code mtX7_begin.1 mtX7_begin.2.1 mtX7_begin.2.2.1 mtX7_begin.2.2.2 ∈ eg_T := ⟨(eg_t1 (i := 9) (by decide +kernel) rfl), (eg_t4 (i := 39) rfl rfl)⟩
theorem ws_mtX7_begin : Cond.instanceMethod mtX7_begin.1 ∈ eg_T ∧ Cond.selects mtX7_begin.1.cls mtX7_begin.1 mtX7_begin.1 ∈ eg_T := ⟨(eg_t4 (i := 37) (by decide +kernel) rfl), (eg_t4 (i := 38) (by decide +kernel) rfl)⟩
theorem wd_mtX7_begin : (mtX7_begin.1.cls ≠ "java/lang/invoke/MethodHandle" ∧ mtX7_begin.1.cls ≠ "java/lang/invoke/VarHandle" ∧ (parseMethodDescriptor mtX7_begin.1.desc).map (fun d => d.parameters.length) = some 2) ∧ mtX7_begin.2.2.1 ≤ 21 := by decide +kernel
theorem wi_mtX7_calmSeconds : Cond.initialized mtX7_calmSeconds.1.cls ∈ eg_T ∧ Cond.code mtX7_calmSeconds.1 mtX7_calmSeconds.2.1 mtX7_calmSeconds.2.2.1 mtX7_calmSeconds.2.2.2 ∈ eg_T := ⟨(eg_t1 (i := 9) (by decide +kernel) rfl), (eg_t4 (i := 183) rfl rfl)⟩
theorem ws_mtX7_calmSeconds : Cond.instanceMethod mtX7_calmSeconds.1 ∈ eg_T ∧ Cond.selects mtX7_calmSeconds.1.cls mtX7_calmSeconds.1 mtX7_calmSeconds.1 ∈ eg_T := ⟨(eg_t4 (i := 182) (by decide +kernel) rfl), (eg_t0 (i := 36) (by decide +kernel))⟩
theorem wd_mtX7_calmSeconds : (mtX7_calmSeconds.1.cls ≠ "java/lang/invoke/MethodHandle" ∧ mtX7_calmSeconds.1.cls ≠ "java/lang/invoke/VarHandle" ∧ (parseMethodDescriptor mtX7_calmSeconds.1.desc).map (fun d => d.parameters.length) = some 1) ∧ mtX7_calmSeconds.2.2.1 ≤ 21 := by decide +kernel
theorem wi_mtX7_cameAgain : Cond.initialized mtX7_cameAgain.1.cls ∈ eg_T ∧ Cond.code mtX7_cameAgain.1 mtX7_cameAgain.2.1 mtX7_cameAgain.2.2.1 mtX7_cameAgain.2.2.2 ∈ eg_T := ⟨(eg_t1 (i := 9) (by decide +kernel) rfl), (eg_t5 (i := 79) rfl rfl)⟩
theorem ws_mtX7_cameAgain : Cond.instanceMethod mtX7_cameAgain.1 ∈ eg_T ∧ Cond.selects mtX7_cameAgain.1.cls mtX7_cameAgain.1 mtX7_cameAgain.1 ∈ eg_T := ⟨(eg_t5 (i := 77) (by decide +kernel) rfl), (eg_t5 (i := 78) (by decide +kernel) rfl)⟩
theorem wd_mtX7_cameAgain : (mtX7_cameAgain.1.cls ≠ "java/lang/invoke/MethodHandle" ∧ mtX7_cameAgain.1.cls ≠ "java/lang/invoke/VarHandle" ∧ (parseMethodDescriptor mtX7_cameAgain.1.desc).map (fun d => d.parameters.length) = some 0) ∧ mtX7_cameAgain.2.2.1 ≤ 21 := by decide +kernel
theorem wi_mtX7_copyFrom : Cond.initialized mtX7_copyFrom.1.cls ∈ eg_T ∧ Cond.code mtX7_copyFrom.1 mtX7_copyFrom.2.1 mtX7_copyFrom.2.2.1 mtX7_copyFrom.2.2.2 ∈ eg_T := ⟨(eg_t1 (i := 9) (by decide +kernel) rfl), (eg_t4 (i := 202) rfl rfl)⟩
theorem ws_mtX7_copyFrom : Cond.instanceMethod mtX7_copyFrom.1 ∈ eg_T ∧ Cond.selects mtX7_copyFrom.1.cls mtX7_copyFrom.1 mtX7_copyFrom.1 ∈ eg_T := ⟨(eg_t4 (i := 200) (by decide +kernel) rfl), (eg_t4 (i := 201) (by decide +kernel) rfl)⟩
theorem wd_mtX7_copyFrom : (mtX7_copyFrom.1.cls ≠ "java/lang/invoke/MethodHandle" ∧ mtX7_copyFrom.1.cls ≠ "java/lang/invoke/VarHandle" ∧ (parseMethodDescriptor mtX7_copyFrom.1.desc).map (fun d => d.parameters.length) = some 1) ∧ mtX7_copyFrom.2.2.1 ≤ 21 := by decide +kernel
theorem wi_mtX7_describe : Cond.initialized mtX7_describe.1.cls ∈ eg_T ∧ Cond.code mtX7_describe.1 mtX7_describe.2.1 mtX7_describe.2.2.1 mtX7_describe.2.2.2 ∈ eg_T := ⟨(eg_t1 (i := 9) (by decide +kernel) rfl), (eg_t4 (i := 131) rfl rfl)⟩
theorem ws_mtX7_describe : Cond.instanceMethod mtX7_describe.1 ∈ eg_T ∧ Cond.selects mtX7_describe.1.cls mtX7_describe.1 mtX7_describe.1 ∈ eg_T := ⟨(eg_t4 (i := 130) (by decide +kernel) rfl), (eg_t0 (i := 29) (by decide +kernel))⟩
theorem wd_mtX7_describe : (mtX7_describe.1.cls ≠ "java/lang/invoke/MethodHandle" ∧ mtX7_describe.1.cls ≠ "java/lang/invoke/VarHandle" ∧ (parseMethodDescriptor mtX7_describe.1.desc).map (fun d => d.parameters.length) = some 2) ∧ mtX7_describe.2.2.1 ≤ 21 := by decide +kernel
theorem wi_mtX7_fillPans : Cond.initialized mtX7_fillPans.1.cls ∈ eg_T ∧ Cond.code mtX7_fillPans.1 mtX7_fillPans.2.1 mtX7_fillPans.2.2.1 mtX7_fillPans.2.2.2 ∈ eg_T := ⟨(eg_t1 (i := 9) (by decide +kernel) rfl), (eg_t4 (i := 102) rfl rfl)⟩
theorem ws_mtX7_fillPans : Cond.instanceMethod mtX7_fillPans.1 ∈ eg_T ∧ Cond.selects mtX7_fillPans.1.cls mtX7_fillPans.1 mtX7_fillPans.1 ∈ eg_T := ⟨(eg_t4 (i := 101) (by decide +kernel) rfl), (eg_t0 (i := 23) (by decide +kernel))⟩
theorem wd_mtX7_fillPans : (mtX7_fillPans.1.cls ≠ "java/lang/invoke/MethodHandle" ∧ mtX7_fillPans.1.cls ≠ "java/lang/invoke/VarHandle" ∧ (parseMethodDescriptor mtX7_fillPans.1.desc).map (fun d => d.parameters.length) = some 0) ∧ mtX7_fillPans.2.2.1 ≤ 21 := by decide +kernel
theorem wi_mtX7_go : Cond.initialized mtX7_go.1.cls ∈ eg_T ∧ Cond.code mtX7_go.1 mtX7_go.2.1 mtX7_go.2.2.1 mtX7_go.2.2.2 ∈ eg_T := ⟨(eg_t1 (i := 9) (by decide +kernel) rfl), (eg_t4 (i := 98) rfl rfl)⟩
theorem ws_mtX7_go : Cond.instanceMethod mtX7_go.1 ∈ eg_T ∧ Cond.selects mtX7_go.1.cls mtX7_go.1 mtX7_go.1 ∈ eg_T := ⟨(eg_t4 (i := 96) (by decide +kernel) rfl), (eg_t4 (i := 97) (by decide +kernel) rfl)⟩
theorem wd_mtX7_go : (mtX7_go.1.cls ≠ "java/lang/invoke/MethodHandle" ∧ mtX7_go.1.cls ≠ "java/lang/invoke/VarHandle" ∧ (parseMethodDescriptor mtX7_go.1.desc).map (fun d => d.parameters.length) = some 1) ∧ mtX7_go.2.2.1 ≤ 21 := by decide +kernel
theorem wi_mtX7_leaveLine : Cond.initialized mtX7_leaveLine.1.cls ∈ eg_T ∧ Cond.code mtX7_leaveLine.1 mtX7_leaveLine.2.1 mtX7_leaveLine.2.2.1 mtX7_leaveLine.2.2.2 ∈ eg_T := ⟨(eg_t1 (i := 9) (by decide +kernel) rfl), (eg_t4 (i := 127) rfl rfl)⟩
theorem ws_mtX7_leaveLine : Cond.instanceMethod mtX7_leaveLine.1 ∈ eg_T ∧ Cond.selects mtX7_leaveLine.1.cls mtX7_leaveLine.1 mtX7_leaveLine.1 ∈ eg_T := ⟨(eg_t4 (i := 126) (by decide +kernel) rfl), (eg_t0 (i := 28) (by decide +kernel))⟩
theorem wd_mtX7_leaveLine : (mtX7_leaveLine.1.cls ≠ "java/lang/invoke/MethodHandle" ∧ mtX7_leaveLine.1.cls ≠ "java/lang/invoke/VarHandle" ∧ (parseMethodDescriptor mtX7_leaveLine.1.desc).map (fun d => d.parameters.length) = some 1) ∧ mtX7_leaveLine.2.2.1 ≤ 21 := by decide +kernel
theorem wi_mtX7_leavesOut : Cond.initialized mtX7_leavesOut.1.cls ∈ eg_T ∧ Cond.code mtX7_leavesOut.1 mtX7_leavesOut.2.1 mtX7_leavesOut.2.2.1 mtX7_leavesOut.2.2.2 ∈ eg_T := ⟨(eg_t1 (i := 9) (by decide +kernel) rfl), (eg_t4 (i := 167) rfl rfl)⟩
theorem ws_mtX7_leavesOut : Cond.instanceMethod mtX7_leavesOut.1 ∈ eg_T ∧ Cond.selects mtX7_leavesOut.1.cls mtX7_leavesOut.1 mtX7_leavesOut.1 ∈ eg_T := ⟨(eg_t4 (i := 166) (by decide +kernel) rfl), (eg_t0 (i := 33) (by decide +kernel))⟩
theorem wd_mtX7_leavesOut : (mtX7_leavesOut.1.cls ≠ "java/lang/invoke/MethodHandle" ∧ mtX7_leavesOut.1.cls ≠ "java/lang/invoke/VarHandle" ∧ (parseMethodDescriptor mtX7_leavesOut.1.desc).map (fun d => d.parameters.length) = some 2) ∧ mtX7_leavesOut.2.2.1 ≤ 21 := by decide +kernel
theorem wi_mtX7_leftInAll : Cond.initialized mtX7_leftInAll.1.cls ∈ eg_T ∧ Cond.code mtX7_leftInAll.1 mtX7_leftInAll.2.1 mtX7_leftInAll.2.2.1 mtX7_leftInAll.2.2.2 ∈ eg_T := ⟨(eg_t1 (i := 9) (by decide +kernel) rfl), (eg_t5 (i := 75) rfl rfl)⟩
theorem ws_mtX7_leftInAll : Cond.instanceMethod mtX7_leftInAll.1 ∈ eg_T ∧ Cond.selects mtX7_leftInAll.1.cls mtX7_leftInAll.1 mtX7_leftInAll.1 ∈ eg_T := ⟨(eg_t5 (i := 73) (by decide +kernel) rfl), (eg_t5 (i := 74) (by decide +kernel) rfl)⟩
theorem wd_mtX7_leftInAll : (mtX7_leftInAll.1.cls ≠ "java/lang/invoke/MethodHandle" ∧ mtX7_leftInAll.1.cls ≠ "java/lang/invoke/VarHandle" ∧ (parseMethodDescriptor mtX7_leftInAll.1.desc).map (fun d => d.parameters.length) = some 0) ∧ mtX7_leftInAll.2.2.1 ≤ 21 := by decide +kernel
theorem wi_mtX7_nextPlace : Cond.initialized mtX7_nextPlace.1.cls ∈ eg_T ∧ Cond.code mtX7_nextPlace.1 mtX7_nextPlace.2.1 mtX7_nextPlace.2.2.1 mtX7_nextPlace.2.2.2 ∈ eg_T := ⟨(eg_t1 (i := 9) (by decide +kernel) rfl), (eg_t4 (i := 123) rfl rfl)⟩
theorem ws_mtX7_nextPlace : Cond.instanceMethod mtX7_nextPlace.1 ∈ eg_T ∧ Cond.selects mtX7_nextPlace.1.cls mtX7_nextPlace.1 mtX7_nextPlace.1 ∈ eg_T := ⟨(eg_t4 (i := 122) (by decide +kernel) rfl), (eg_t0 (i := 27) (by decide +kernel))⟩
theorem wd_mtX7_nextPlace : (mtX7_nextPlace.1.cls ≠ "java/lang/invoke/MethodHandle" ∧ mtX7_nextPlace.1.cls ≠ "java/lang/invoke/VarHandle" ∧ (parseMethodDescriptor mtX7_nextPlace.1.desc).map (fun d => d.parameters.length) = some 1) ∧ mtX7_nextPlace.2.2.1 ≤ 21 := by decide +kernel
theorem wi_mtX7_orderPans : Cond.initialized mtX7_orderPans.1.cls ∈ eg_T ∧ Cond.code mtX7_orderPans.1 mtX7_orderPans.2.1 mtX7_orderPans.2.2.1 mtX7_orderPans.2.2.2 ∈ eg_T := ⟨(eg_t1 (i := 9) (by decide +kernel) rfl), (eg_t4 (i := 179) rfl rfl)⟩
theorem ws_mtX7_orderPans : Cond.instanceMethod mtX7_orderPans.1 ∈ eg_T ∧ Cond.selects mtX7_orderPans.1.cls mtX7_orderPans.1 mtX7_orderPans.1 ∈ eg_T := ⟨(eg_t4 (i := 178) (by decide +kernel) rfl), (eg_t0 (i := 35) (by decide +kernel))⟩
theorem wd_mtX7_orderPans : (mtX7_orderPans.1.cls ≠ "java/lang/invoke/MethodHandle" ∧ mtX7_orderPans.1.cls ≠ "java/lang/invoke/VarHandle" ∧ (parseMethodDescriptor mtX7_orderPans.1.desc).map (fun d => d.parameters.length) = some 0) ∧ mtX7_orderPans.2.2.1 ≤ 21 := by decide +kernel
theorem wi_mtX7_perform : Cond.initialized mtX7_perform.1.cls ∈ eg_T ∧ Cond.code mtX7_perform.1 mtX7_perform.2.1 mtX7_perform.2.2.1 mtX7_perform.2.2.2 ∈ eg_T := ⟨(eg_t1 (i := 9) (by decide +kernel) rfl), (eg_t4 (i := 218) rfl rfl)⟩
theorem ws_mtX7_perform : Cond.instanceMethod mtX7_perform.1 ∈ eg_T ∧ Cond.selects mtX7_perform.1.cls mtX7_perform.1 mtX7_perform.1 ∈ eg_T := ⟨(eg_t4 (i := 216) (by decide +kernel) rfl), (eg_t4 (i := 217) (by decide +kernel) rfl)⟩
theorem wd_mtX7_perform : (mtX7_perform.1.cls ≠ "java/lang/invoke/MethodHandle" ∧ mtX7_perform.1.cls ≠ "java/lang/invoke/VarHandle" ∧ (parseMethodDescriptor mtX7_perform.1.desc).map (fun d => d.parameters.length) = some 3) ∧ mtX7_perform.2.2.1 ≤ 21 := by decide +kernel
theorem wi_mtX7_placeOf : Cond.initialized mtX7_placeOf.1.cls ∈ eg_T ∧ Cond.code mtX7_placeOf.1 mtX7_placeOf.2.1 mtX7_placeOf.2.2.1 mtX7_placeOf.2.2.2 ∈ eg_T := ⟨(eg_t1 (i := 9) (by decide +kernel) rfl), (eg_t4 (i := 82) rfl rfl)⟩
theorem ws_mtX7_placeOf : Cond.instanceMethod mtX7_placeOf.1 ∈ eg_T ∧ Cond.selects mtX7_placeOf.1.cls mtX7_placeOf.1 mtX7_placeOf.1 ∈ eg_T := ⟨(eg_t4 (i := 80) (by decide +kernel) rfl), (eg_t4 (i := 81) (by decide +kernel) rfl)⟩
theorem wd_mtX7_placeOf : (mtX7_placeOf.1.cls ≠ "java/lang/invoke/MethodHandle" ∧ mtX7_placeOf.1.cls ≠ "java/lang/invoke/VarHandle" ∧ (parseMethodDescriptor mtX7_placeOf.1.desc).map (fun d => d.parameters.length) = some 1) ∧ mtX7_placeOf.2.2.1 ≤ 21 := by decide +kernel
theorem wi_mtX7_portionsInAll : Cond.initialized mtX7_portionsInAll.1.cls ∈ eg_T ∧ Cond.code mtX7_portionsInAll.1 mtX7_portionsInAll.2.1 mtX7_portionsInAll.2.2.1 mtX7_portionsInAll.2.2.2 ∈ eg_T := ⟨(eg_t1 (i := 9) (by decide +kernel) rfl), (eg_t5 (i := 179) rfl rfl)⟩
theorem ws_mtX7_portionsInAll : Cond.instanceMethod mtX7_portionsInAll.1 ∈ eg_T ∧ Cond.selects mtX7_portionsInAll.1.cls mtX7_portionsInAll.1 mtX7_portionsInAll.1 ∈ eg_T := ⟨(eg_t5 (i := 177) (by decide +kernel) rfl), (eg_t5 (i := 178) (by decide +kernel) rfl)⟩
theorem wd_mtX7_portionsInAll : (mtX7_portionsInAll.1.cls ≠ "java/lang/invoke/MethodHandle" ∧ mtX7_portionsInAll.1.cls ≠ "java/lang/invoke/VarHandle" ∧ (parseMethodDescriptor mtX7_portionsInAll.1.desc).map (fun d => d.parameters.length) = some 0) ∧ mtX7_portionsInAll.2.2.1 ≤ 21 := by decide +kernel
theorem wi_mtX7_repeatCalm : Cond.initialized mtX7_repeatCalm.1.cls ∈ eg_T ∧ Cond.code mtX7_repeatCalm.1 mtX7_repeatCalm.2.1 mtX7_repeatCalm.2.2.1 mtX7_repeatCalm.2.2.2 ∈ eg_T := ⟨(eg_t1 (i := 9) (by decide +kernel) rfl), (eg_t4 (i := 190) rfl rfl)⟩
theorem ws_mtX7_repeatCalm : Cond.instanceMethod mtX7_repeatCalm.1 ∈ eg_T ∧ Cond.selects mtX7_repeatCalm.1.cls mtX7_repeatCalm.1 mtX7_repeatCalm.1 ∈ eg_T := ⟨(eg_t4 (i := 189) (by decide +kernel) rfl), (eg_t0 (i := 37) (by decide +kernel))⟩
theorem wd_mtX7_repeatCalm : (mtX7_repeatCalm.1.cls ≠ "java/lang/invoke/MethodHandle" ∧ mtX7_repeatCalm.1.cls ≠ "java/lang/invoke/VarHandle" ∧ (parseMethodDescriptor mtX7_repeatCalm.1.desc).map (fun d => d.parameters.length) = some 1) ∧ mtX7_repeatCalm.2.2.1 ≤ 21 := by decide +kernel
theorem wi_mtX7_sendAway : Cond.initialized mtX7_sendAway.1.cls ∈ eg_T ∧ Cond.code mtX7_sendAway.1 mtX7_sendAway.2.1 mtX7_sendAway.2.2.1 mtX7_sendAway.2.2.2 ∈ eg_T := ⟨(eg_t1 (i := 9) (by decide +kernel) rfl), (eg_t4 (i := 222) rfl rfl)⟩
theorem ws_mtX7_sendAway : Cond.instanceMethod mtX7_sendAway.1 ∈ eg_T ∧ Cond.selects mtX7_sendAway.1.cls mtX7_sendAway.1 mtX7_sendAway.1 ∈ eg_T := ⟨(eg_t4 (i := 221) (by decide +kernel) rfl), (eg_t0 (i := 40) (by decide +kernel))⟩
theorem wd_mtX7_sendAway : (mtX7_sendAway.1.cls ≠ "java/lang/invoke/MethodHandle" ∧ mtX7_sendAway.1.cls ≠ "java/lang/invoke/VarHandle" ∧ (parseMethodDescriptor mtX7_sendAway.1.desc).map (fun d => d.parameters.length) = some 1) ∧ mtX7_sendAway.2.2.1 ≤ 21 := by decide +kernel
theorem wi_mtX7_stepOut : Cond.initialized mtX7_stepOut.1.cls ∈ eg_T ∧ Cond.code mtX7_stepOut.1 mtX7_stepOut.2.1 mtX7_stepOut.2.2.1 mtX7_stepOut.2.2.2 ∈ eg_T := ⟨(eg_t1 (i := 9) (by decide +kernel) rfl), (eg_t4 (i := 155) rfl rfl)⟩
theorem ws_mtX7_stepOut : Cond.instanceMethod mtX7_stepOut.1 ∈ eg_T ∧ Cond.selects mtX7_stepOut.1.cls mtX7_stepOut.1 mtX7_stepOut.1 ∈ eg_T := ⟨(eg_t4 (i := 154) (by decide +kernel) rfl), (eg_t0 (i := 30) (by decide +kernel))⟩
theorem wd_mtX7_stepOut : (mtX7_stepOut.1.cls ≠ "java/lang/invoke/MethodHandle" ∧ mtX7_stepOut.1.cls ≠ "java/lang/invoke/VarHandle" ∧ (parseMethodDescriptor mtX7_stepOut.1.desc).map (fun d => d.parameters.length) = some 1) ∧ mtX7_stepOut.2.2.1 ≤ 21 := by decide +kernel
theorem wi_mtX7_take : Cond.initialized mtX7_take.1.cls ∈ eg_T ∧ Cond.code mtX7_take.1 mtX7_take.2.1 mtX7_take.2.2.1 mtX7_take.2.2.2 ∈ eg_T := ⟨(eg_t1 (i := 9) (by decide +kernel) rfl), (eg_t4 (i := 163) rfl rfl)⟩
theorem ws_mtX7_take : Cond.instanceMethod mtX7_take.1 ∈ eg_T ∧ Cond.selects mtX7_take.1.cls mtX7_take.1 mtX7_take.1 ∈ eg_T := ⟨(eg_t4 (i := 162) (by decide +kernel) rfl), (eg_t0 (i := 32) (by decide +kernel))⟩
theorem wd_mtX7_take : (mtX7_take.1.cls ≠ "java/lang/invoke/MethodHandle" ∧ mtX7_take.1.cls ≠ "java/lang/invoke/VarHandle" ∧ (parseMethodDescriptor mtX7_take.1.desc).map (fun d => d.parameters.length) = some 2) ∧ mtX7_take.2.2.1 ≤ 21 := by decide +kernel
theorem wi_mtX7_takeOn : Cond.initialized mtX7_takeOn.1.cls ∈ eg_T ∧ Cond.code mtX7_takeOn.1 mtX7_takeOn.2.1 mtX7_takeOn.2.2.1 mtX7_takeOn.2.2.2 ∈ eg_T := ⟨(eg_t1 (i := 9) (by decide +kernel) rfl), (eg_t4 (i := 175) rfl rfl)⟩
theorem ws_mtX7_takeOn : Cond.instanceMethod mtX7_takeOn.1 ∈ eg_T ∧ Cond.selects mtX7_takeOn.1.cls mtX7_takeOn.1 mtX7_takeOn.1 ∈ eg_T := ⟨(eg_t4 (i := 174) (by decide +kernel) rfl), (eg_t0 (i := 34) (by decide +kernel))⟩
theorem wd_mtX7_takeOn : (mtX7_takeOn.1.cls ≠ "java/lang/invoke/MethodHandle" ∧ mtX7_takeOn.1.cls ≠ "java/lang/invoke/VarHandle" ∧ (parseMethodDescriptor mtX7_takeOn.1.desc).map (fun d => d.parameters.length) = some 0) ∧ mtX7_takeOn.2.2.1 ≤ 21 := by decide +kernel
theorem wi_mtX7_takenInAll : Cond.initialized mtX7_takenInAll.1.cls ∈ eg_T ∧ Cond.code mtX7_takenInAll.1 mtX7_takenInAll.2.1 mtX7_takenInAll.2.2.1 mtX7_takenInAll.2.2.2 ∈ eg_T := ⟨(eg_t1 (i := 9) (by decide +kernel) rfl), (eg_t5 (i := 71) rfl rfl)⟩
theorem ws_mtX7_takenInAll : Cond.instanceMethod mtX7_takenInAll.1 ∈ eg_T ∧ Cond.selects mtX7_takenInAll.1.cls mtX7_takenInAll.1 mtX7_takenInAll.1 ∈ eg_T := ⟨(eg_t5 (i := 69) (by decide +kernel) rfl), (eg_t5 (i := 70) (by decide +kernel) rfl)⟩
theorem wd_mtX7_takenInAll : (mtX7_takenInAll.1.cls ≠ "java/lang/invoke/MethodHandle" ∧ mtX7_takenInAll.1.cls ≠ "java/lang/invoke/VarHandle" ∧ (parseMethodDescriptor mtX7_takenInAll.1.desc).map (fun d => d.parameters.length) = some 0) ∧ mtX7_takenInAll.2.2.1 ≤ 21 := by decide +kernel
theorem wi_mtX7_takersAt : Cond.initialized mtX7_takersAt.1.cls ∈ eg_T ∧ Cond.code mtX7_takersAt.1 mtX7_takersAt.2.1 mtX7_takersAt.2.2.1 mtX7_takersAt.2.2.2 ∈ eg_T := ⟨(eg_t1 (i := 9) (by decide +kernel) rfl), (eg_t4 (i := 159) rfl rfl)⟩
theorem ws_mtX7_takersAt : Cond.instanceMethod mtX7_takersAt.1 ∈ eg_T ∧ Cond.selects mtX7_takersAt.1.cls mtX7_takersAt.1 mtX7_takersAt.1 ∈ eg_T := ⟨(eg_t4 (i := 158) (by decide +kernel) rfl), (eg_t0 (i := 31) (by decide +kernel))⟩
theorem wd_mtX7_takersAt : (mtX7_takersAt.1.cls ≠ "java/lang/invoke/MethodHandle" ∧ mtX7_takersAt.1.cls ≠ "java/lang/invoke/VarHandle" ∧ (parseMethodDescriptor mtX7_takersAt.1.desc).map (fun d => d.parameters.length) = some 1) ∧ mtX7_takersAt.2.2.1 ≤ 21 := by decide +kernel
theorem wi_mtX7_waitedByAll : Cond.initialized mtX7_waitedByAll.1.cls ∈ eg_T ∧ Cond.code mtX7_waitedByAll.1 mtX7_waitedByAll.2.1 mtX7_waitedByAll.2.2.1 mtX7_waitedByAll.2.2.2 ∈ eg_T := ⟨(eg_t1 (i := 9) (by decide +kernel) rfl), (eg_t5 (i := 14) rfl rfl)⟩
theorem ws_mtX7_waitedByAll : Cond.instanceMethod mtX7_waitedByAll.1 ∈ eg_T ∧ Cond.selects mtX7_waitedByAll.1.cls mtX7_waitedByAll.1 mtX7_waitedByAll.1 ∈ eg_T := ⟨(eg_t5 (i := 12) (by decide +kernel) rfl), (eg_t5 (i := 13) (by decide +kernel) rfl)⟩
theorem wd_mtX7_waitedByAll : (mtX7_waitedByAll.1.cls ≠ "java/lang/invoke/MethodHandle" ∧ mtX7_waitedByAll.1.cls ≠ "java/lang/invoke/VarHandle" ∧ (parseMethodDescriptor mtX7_waitedByAll.1.desc).map (fun d => d.parameters.length) = some 0) ∧ mtX7_waitedByAll.2.2.1 ≤ 21 := by decide +kernel
theorem wi_mtX7_walk : Cond.initialized mtX7_walk.1.cls ∈ eg_T ∧ Cond.code mtX7_walk.1 mtX7_walk.2.1 mtX7_walk.2.2.1 mtX7_walk.2.2.2 ∈ eg_T := ⟨(eg_t1 (i := 9) (by decide +kernel) rfl), (eg_t4 (i := 119) rfl rfl)⟩
theorem ws_mtX7_walk : Cond.instanceMethod mtX7_walk.1 ∈ eg_T ∧ Cond.selects mtX7_walk.1.cls mtX7_walk.1 mtX7_walk.1 ∈ eg_T := ⟨(eg_t4 (i := 118) (by decide +kernel) rfl), (eg_t0 (i := 26) (by decide +kernel))⟩
theorem wd_mtX7_walk : (mtX7_walk.1.cls ≠ "java/lang/invoke/MethodHandle" ∧ mtX7_walk.1.cls ≠ "java/lang/invoke/VarHandle" ∧ (parseMethodDescriptor mtX7_walk.1.desc).map (fun d => d.parameters.length) = some 1) ∧ mtX7_walk.2.2.1 ≤ 21 := by decide +kernel
theorem wi_mtX7_walkAll : Cond.initialized mtX7_walkAll.1.cls ∈ eg_T ∧ Cond.code mtX7_walkAll.1 mtX7_walkAll.2.1 mtX7_walkAll.2.2.1 mtX7_walkAll.2.2.2 ∈ eg_T := ⟨(eg_t1 (i := 9) (by decide +kernel) rfl), (eg_t4 (i := 115) rfl rfl)⟩
theorem ws_mtX7_walkAll : Cond.instanceMethod mtX7_walkAll.1 ∈ eg_T ∧ Cond.selects mtX7_walkAll.1.cls mtX7_walkAll.1 mtX7_walkAll.1 ∈ eg_T := ⟨(eg_t4 (i := 114) (by decide +kernel) rfl), (eg_t0 (i := 25) (by decide +kernel))⟩
theorem wd_mtX7_walkAll : (mtX7_walkAll.1.cls ≠ "java/lang/invoke/MethodHandle" ∧ mtX7_walkAll.1.cls ≠ "java/lang/invoke/VarHandle" ∧ (parseMethodDescriptor mtX7_walkAll.1.desc).map (fun d => d.parameters.length) = some 0) ∧ mtX7_walkAll.2.2.1 ≤ 21 := by decide +kernel
theorem wi_mtX8_add : Cond.initialized mtX8_add.1.cls ∈ eg_T ∧ Cond.code mtX8_add.1 mtX8_add.2.1 mtX8_add.2.2.1 mtX8_add.2.2.2 ∈ eg_T := ⟨(eg_t1 (i := 8) (by decide +kernel) rfl), (eg_t5 (i := 130) rfl rfl)⟩
theorem ws_mtX8_add : Cond.instanceMethod mtX8_add.1 ∈ eg_T ∧ Cond.selects mtX8_add.1.cls mtX8_add.1 mtX8_add.1 ∈ eg_T := ⟨(eg_t5 (i := 128) (by decide +kernel) rfl), (eg_t5 (i := 129) (by decide +kernel) rfl)⟩
theorem wd_mtX8_add : (mtX8_add.1.cls ≠ "java/lang/invoke/MethodHandle" ∧ mtX8_add.1.cls ≠ "java/lang/invoke/VarHandle" ∧ (parseMethodDescriptor mtX8_add.1.desc).map (fun d => d.parameters.length) = some 4) ∧ mtX8_add.2.2.1 ≤ 21 := by decide +kernel
theorem wi_mtX8_agrees : Cond.initialized mtX8_agrees.1.cls ∈ eg_T ∧ Cond.code mtX8_agrees.1 mtX8_agrees.2.1 mtX8_agrees.2.2.1 mtX8_agrees.2.2.2 ∈ eg_T := ⟨(eg_t1 (i := 8) (by decide +kernel) rfl), (eg_t5 (i := 162) rfl rfl)⟩
theorem ws_mtX8_agrees : Cond.instanceMethod mtX8_agrees.1 ∈ eg_T ∧ Cond.selects mtX8_agrees.1.cls mtX8_agrees.1 mtX8_agrees.1 ∈ eg_T := ⟨(eg_t5 (i := 160) (by decide +kernel) rfl), (eg_t5 (i := 161) (by decide +kernel) rfl)⟩
theorem wd_mtX8_agrees : (mtX8_agrees.1.cls ≠ "java/lang/invoke/MethodHandle" ∧ mtX8_agrees.1.cls ≠ "java/lang/invoke/VarHandle" ∧ (parseMethodDescriptor mtX8_agrees.1.desc).map (fun d => d.parameters.length) = some 2) ∧ mtX8_agrees.2.2.1 ≤ 21 := by decide +kernel
theorem wi_mtX8_clear : Cond.initialized mtX8_clear.1.cls ∈ eg_T ∧ Cond.code mtX8_clear.1 mtX8_clear.2.1 mtX8_clear.2.2.1 mtX8_clear.2.2.2 ∈ eg_T := ⟨(eg_t1 (i := 8) (by decide +kernel) rfl), (eg_t2 (i := 113) rfl rfl)⟩
theorem ws_mtX8_clear : Cond.instanceMethod mtX8_clear.1 ∈ eg_T ∧ Cond.selects mtX8_clear.1.cls mtX8_clear.1 mtX8_clear.1 ∈ eg_T := ⟨(eg_t2 (i := 111) (by decide +kernel) rfl), (eg_t2 (i := 112) (by decide +kernel) rfl)⟩
theorem wd_mtX8_clear : (mtX8_clear.1.cls ≠ "java/lang/invoke/MethodHandle" ∧ mtX8_clear.1.cls ≠ "java/lang/invoke/VarHandle" ∧ (parseMethodDescriptor mtX8_clear.1.desc).map (fun d => d.parameters.length) = some 0) ∧ mtX8_clear.2.2.1 ≤ 21 := by decide +kernel
theorem wi_mtX8_knownCounts : Cond.initialized mtX8_knownCounts.1.cls ∈ eg_T ∧ Cond.code mtX8_knownCounts.1 mtX8_knownCounts.2.1 mtX8_knownCounts.2.2.1 mtX8_knownCounts.2.2.2 ∈ eg_T := ⟨(eg_t1 (i := 8) (by decide +kernel) rfl), (eg_t5 (i := 150) rfl rfl)⟩
theorem ws_mtX8_knownCounts : Cond.instanceMethod mtX8_knownCounts.1 ∈ eg_T ∧ Cond.selects mtX8_knownCounts.1.cls mtX8_knownCounts.1 mtX8_knownCounts.1 ∈ eg_T := ⟨(eg_t5 (i := 148) (by decide +kernel) rfl), (eg_t5 (i := 149) (by decide +kernel) rfl)⟩
theorem wd_mtX8_knownCounts : (mtX8_knownCounts.1.cls ≠ "java/lang/invoke/MethodHandle" ∧ mtX8_knownCounts.1.cls ≠ "java/lang/invoke/VarHandle" ∧ (parseMethodDescriptor mtX8_knownCounts.1.desc).map (fun d => d.parameters.length) = some 0) ∧ mtX8_knownCounts.2.2.1 ≤ 21 := by decide +kernel
theorem wi_mtX8_markHolding : Cond.initialized mtX8_markHolding.1.cls ∈ eg_T ∧ Cond.code mtX8_markHolding.1 mtX8_markHolding.2.1 mtX8_markHolding.2.2.1 mtX8_markHolding.2.2.2 ∈ eg_T := ⟨(eg_t1 (i := 8) (by decide +kernel) rfl), (eg_t5 (i := 146) rfl rfl)⟩
theorem ws_mtX8_markHolding : Cond.instanceMethod mtX8_markHolding.1 ∈ eg_T ∧ Cond.selects mtX8_markHolding.1.cls mtX8_markHolding.1 mtX8_markHolding.1 ∈ eg_T := ⟨(eg_t5 (i := 144) (by decide +kernel) rfl), (eg_t5 (i := 145) (by decide +kernel) rfl)⟩
theorem wd_mtX8_markHolding : (mtX8_markHolding.1.cls ≠ "java/lang/invoke/MethodHandle" ∧ mtX8_markHolding.1.cls ≠ "java/lang/invoke/VarHandle" ∧ (parseMethodDescriptor mtX8_markHolding.1.desc).map (fun d => d.parameters.length) = some 0) ∧ mtX8_markHolding.2.2.1 ≤ 21 := by decide +kernel
theorem wi_mtX8_nextSecond : Cond.initialized mtX8_nextSecond.1.cls ∈ eg_T ∧ Cond.code mtX8_nextSecond.1 mtX8_nextSecond.2.1 mtX8_nextSecond.2.2.1 mtX8_nextSecond.2.2.2 ∈ eg_T := ⟨(eg_t1 (i := 8) (by decide +kernel) rfl), (eg_t5 (i := 158) rfl rfl)⟩
theorem ws_mtX8_nextSecond : Cond.instanceMethod mtX8_nextSecond.1 ∈ eg_T ∧ Cond.selects mtX8_nextSecond.1.cls mtX8_nextSecond.1 mtX8_nextSecond.1 ∈ eg_T := ⟨(eg_t5 (i := 156) (by decide +kernel) rfl), (eg_t5 (i := 157) (by decide +kernel) rfl)⟩
theorem wd_mtX8_nextSecond : (mtX8_nextSecond.1.cls ≠ "java/lang/invoke/MethodHandle" ∧ mtX8_nextSecond.1.cls ≠ "java/lang/invoke/VarHandle" ∧ (parseMethodDescriptor mtX8_nextSecond.1.desc).map (fun d => d.parameters.length) = some 1) ∧ mtX8_nextSecond.2.2.1 ≤ 21 := by decide +kernel
theorem wi_mtX9_advance : Cond.initialized mtX9_advance.1.cls ∈ eg_T ∧ Cond.code mtX9_advance.1 mtX9_advance.2.1 mtX9_advance.2.2.1 mtX9_advance.2.2.2 ∈ eg_T := ⟨(eg_t1 (i := 3) (by decide +kernel) rfl), (eg_t3 (i := 94) rfl rfl)⟩
theorem ws_mtX9_advance : Cond.instanceMethod mtX9_advance.1 ∈ eg_T ∧ Cond.selects mtX9_advance.1.cls mtX9_advance.1 mtX9_advance.1 ∈ eg_T := ⟨(eg_t3 (i := 92) (by decide +kernel) rfl), (eg_t3 (i := 93) (by decide +kernel) rfl)⟩
theorem wd_mtX9_advance : (mtX9_advance.1.cls ≠ "java/lang/invoke/MethodHandle" ∧ mtX9_advance.1.cls ≠ "java/lang/invoke/VarHandle" ∧ (parseMethodDescriptor mtX9_advance.1.desc).map (fun d => d.parameters.length) = some 0) ∧ mtX9_advance.2.2.1 ≤ 21 := by decide +kernel
theorem wi_mtX9_begin : Cond.initialized mtX9_begin.1.cls ∈ eg_T ∧ Cond.code mtX9_begin.1 mtX9_begin.2.1 mtX9_begin.2.2.1 mtX9_begin.2.2.2 ∈ eg_T := ⟨(eg_t1 (i := 3) (by decide +kernel) rfl), (eg_t3 (i := 90) rfl rfl)⟩
theorem ws_mtX9_begin : Cond.instanceMethod mtX9_begin.1 ∈ eg_T ∧ Cond.selects mtX9_begin.1.cls mtX9_begin.1 mtX9_begin.1 ∈ eg_T := ⟨(eg_t3 (i := 88) (by decide +kernel) rfl), (eg_t3 (i := 89) (by decide +kernel) rfl)⟩
theorem wd_mtX9_begin : (mtX9_begin.1.cls ≠ "java/lang/invoke/MethodHandle" ∧ mtX9_begin.1.cls ≠ "java/lang/invoke/VarHandle" ∧ (parseMethodDescriptor mtX9_begin.1.desc).map (fun d => d.parameters.length) = some 1) ∧ mtX9_begin.2.2.1 ≤ 21 := by decide +kernel
theorem wi_mtX9_readNumber : Cond.initialized mtX9_readNumber.1.cls ∈ eg_T ∧ Cond.code mtX9_readNumber.1 mtX9_readNumber.2.1 mtX9_readNumber.2.2.1 mtX9_readNumber.2.2.2 ∈ eg_T := ⟨(eg_t1 (i := 3) (by decide +kernel) rfl), (eg_t3 (i := 155) rfl rfl)⟩
theorem ws_mtX9_readNumber : Cond.instanceMethod mtX9_readNumber.1 ∈ eg_T ∧ Cond.selects mtX9_readNumber.1.cls mtX9_readNumber.1 mtX9_readNumber.1 ∈ eg_T := ⟨(eg_t3 (i := 154) (by decide +kernel) rfl), (eg_t0 (i := 3) (by decide +kernel))⟩
theorem wd_mtX9_readNumber : (mtX9_readNumber.1.cls ≠ "java/lang/invoke/MethodHandle" ∧ mtX9_readNumber.1.cls ≠ "java/lang/invoke/VarHandle" ∧ (parseMethodDescriptor mtX9_readNumber.1.desc).map (fun d => d.parameters.length) = some 0) ∧ mtX9_readNumber.2.2.1 ≤ 21 := by decide +kernel
theorem wi_mtX9_readSign : Cond.initialized mtX9_readSign.1.cls ∈ eg_T ∧ Cond.code mtX9_readSign.1 mtX9_readSign.2.1 mtX9_readSign.2.2.1 mtX9_readSign.2.2.2 ∈ eg_T := ⟨(eg_t1 (i := 3) (by decide +kernel) rfl), (eg_t3 (i := 159) rfl rfl)⟩
theorem ws_mtX9_readSign : Cond.instanceMethod mtX9_readSign.1 ∈ eg_T ∧ Cond.selects mtX9_readSign.1.cls mtX9_readSign.1 mtX9_readSign.1 ∈ eg_T := ⟨(eg_t3 (i := 158) (by decide +kernel) rfl), (eg_t0 (i := 4) (by decide +kernel))⟩
theorem wd_mtX9_readSign : (mtX9_readSign.1.cls ≠ "java/lang/invoke/MethodHandle" ∧ mtX9_readSign.1.cls ≠ "java/lang/invoke/VarHandle" ∧ (parseMethodDescriptor mtX9_readSign.1.desc).map (fun d => d.parameters.length) = some 0) ∧ mtX9_readSign.2.2.1 ≤ 21 := by decide +kernel
theorem wi_mtX9_readWord : Cond.initialized mtX9_readWord.1.cls ∈ eg_T ∧ Cond.code mtX9_readWord.1 mtX9_readWord.2.1 mtX9_readWord.2.2.1 mtX9_readWord.2.2.2 ∈ eg_T := ⟨(eg_t1 (i := 3) (by decide +kernel) rfl), (eg_t3 (i := 98) rfl rfl)⟩
theorem ws_mtX9_readWord : Cond.instanceMethod mtX9_readWord.1 ∈ eg_T ∧ Cond.selects mtX9_readWord.1.cls mtX9_readWord.1 mtX9_readWord.1 ∈ eg_T := ⟨(eg_t3 (i := 97) (by decide +kernel) rfl), (eg_t0 (i := 1) (by decide +kernel))⟩
theorem wd_mtX9_readWord : (mtX9_readWord.1.cls ≠ "java/lang/invoke/MethodHandle" ∧ mtX9_readWord.1.cls ≠ "java/lang/invoke/VarHandle" ∧ (parseMethodDescriptor mtX9_readWord.1.desc).map (fun d => d.parameters.length) = some 0) ∧ mtX9_readWord.2.2.1 ≤ 21 := by decide +kernel
theorem wi_mtX9_wordOfLanguage : Cond.initialized mtX9_wordOfLanguage.1.cls ∈ eg_T ∧ Cond.code mtX9_wordOfLanguage.1 mtX9_wordOfLanguage.2.1 mtX9_wordOfLanguage.2.2.1 mtX9_wordOfLanguage.2.2.2 ∈ eg_T := ⟨(eg_t1 (i := 3) (by decide +kernel) rfl), (eg_t3 (i := 102) rfl rfl)⟩
theorem ws_mtX9_wordOfLanguage : Cond.instanceMethod mtX9_wordOfLanguage.1 ∈ eg_T ∧ Cond.selects mtX9_wordOfLanguage.1.cls mtX9_wordOfLanguage.1 mtX9_wordOfLanguage.1 ∈ eg_T := ⟨(eg_t3 (i := 101) (by decide +kernel) rfl), (eg_t0 (i := 2) (by decide +kernel))⟩
theorem wd_mtX9_wordOfLanguage : (mtX9_wordOfLanguage.1.cls ≠ "java/lang/invoke/MethodHandle" ∧ mtX9_wordOfLanguage.1.cls ≠ "java/lang/invoke/VarHandle" ∧ (parseMethodDescriptor mtX9_wordOfLanguage.1.desc).map (fun d => d.parameters.length) = some 0) ∧ mtX9_wordOfLanguage.2.2.1 ≤ 21 := by decide +kernel
theorem wi_mtX11_at : Cond.initialized mtX11_at.1.cls ∈ eg_T ∧ Cond.code mtX11_at.1 mtX11_at.2.1 mtX11_at.2.2.1 mtX11_at.2.2.2 ∈ eg_T := ⟨(eg_t1 (i := 12) (by decide +kernel) rfl), (eg_t6 (i := 63) rfl rfl)⟩
theorem ws_mtX11_at : Cond.static mtX11_at.1 ∈ eg_T := (eg_t6 (i := 62) (by decide +kernel) rfl)
theorem wd_mtX11_at : (mtX11_at.1.cls ≠ "java/lang/invoke/MethodHandle" ∧ mtX11_at.1.cls ≠ "java/lang/invoke/VarHandle" ∧ (parseMethodDescriptor mtX11_at.1.desc).map (fun d => d.parameters.length) = some 1) ∧ mtX11_at.2.2.1 ≤ 21 := by decide +kernel
theorem wi_mtX11_begins : Cond.initialized mtX11_begins.1.cls ∈ eg_T ∧ Cond.code mtX11_begins.1 mtX11_begins.2.1 mtX11_begins.2.2.1 mtX11_begins.2.2.2 ∈ eg_T := ⟨(eg_t1 (i := 12) (by decide +kernel) rfl), (eg_t6 (i := 56) rfl rfl)⟩
theorem ws_mtX11_begins : Cond.instanceMethod mtX11_begins.1 ∈ eg_T ∧ Cond.selects mtX11_begins.1.cls mtX11_begins.1 mtX11_begins.1 ∈ eg_T := ⟨(eg_t6 (i := 55) (by decide +kernel) rfl), (eg_t0 (i := 52) (by decide +kernel))⟩
theorem wd_mtX11_begins : (mtX11_begins.1.cls ≠ "java/lang/invoke/MethodHandle" ∧ mtX11_begins.1.cls ≠ "java/lang/invoke/VarHandle" ∧ (parseMethodDescriptor mtX11_begins.1.desc).map (fun d => d.parameters.length) = some 0) ∧ mtX11_begins.2.2.1 ≤ 21 := by decide +kernel
theorem wi_mtX11_bind : Cond.initialized mtX11_bind.1.cls ∈ eg_T ∧ Cond.code mtX11_bind.1 mtX11_bind.2.1 mtX11_bind.2.2.1 mtX11_bind.2.2.2 ∈ eg_T := ⟨(eg_t1 (i := 12) (by decide +kernel) rfl), (eg_t7 (i := 202) rfl rfl)⟩
theorem ws_mtX11_bind : Cond.instanceMethod mtX11_bind.1 ∈ eg_T ∧ Cond.selects mtX11_bind.1.cls mtX11_bind.1 mtX11_bind.1 ∈ eg_T := ⟨(eg_t7 (i := 201) (by decide +kernel) rfl), (eg_t0 (i := 80) (by decide +kernel))⟩
theorem wd_mtX11_bind : (mtX11_bind.1.cls ≠ "java/lang/invoke/MethodHandle" ∧ mtX11_bind.1.cls ≠ "java/lang/invoke/VarHandle" ∧ (parseMethodDescriptor mtX11_bind.1.desc).map (fun d => d.parameters.length) = some 1) ∧ mtX11_bind.2.2.1 ≤ 21 := by decide +kernel
theorem wi_mtX11_bounded : Cond.initialized mtX11_bounded.1.cls ∈ eg_T ∧ Cond.code mtX11_bounded.1 mtX11_bounded.2.1 mtX11_bounded.2.2.1 mtX11_bounded.2.2.2 ∈ eg_T := ⟨(eg_t1 (i := 12) (by decide +kernel) rfl), (eg_t8 (i := 65) rfl rfl)⟩
theorem ws_mtX11_bounded : Cond.instanceMethod mtX11_bounded.1 ∈ eg_T ∧ Cond.selects mtX11_bounded.1.cls mtX11_bounded.1 mtX11_bounded.1 ∈ eg_T := ⟨(eg_t8 (i := 64) (by decide +kernel) rfl), (eg_t0 (i := 98) (by decide +kernel))⟩
theorem wd_mtX11_bounded : (mtX11_bounded.1.cls ≠ "java/lang/invoke/MethodHandle" ∧ mtX11_bounded.1.cls ≠ "java/lang/invoke/VarHandle" ∧ (parseMethodDescriptor mtX11_bounded.1.desc).map (fun d => d.parameters.length) = some 1) ∧ mtX11_bounded.2.2.1 ≤ 21 := by decide +kernel
theorem wi_mtX11_clears : Cond.initialized mtX11_clears.1.cls ∈ eg_T ∧ Cond.code mtX11_clears.1 mtX11_clears.2.1 mtX11_clears.2.2.1 mtX11_clears.2.2.2 ∈ eg_T := ⟨(eg_t1 (i := 12) (by decide +kernel) rfl), (eg_t6 (i := 52) rfl rfl)⟩
theorem ws_mtX11_clears : Cond.instanceMethod mtX11_clears.1 ∈ eg_T ∧ Cond.selects mtX11_clears.1.cls mtX11_clears.1 mtX11_clears.1 ∈ eg_T := ⟨(eg_t6 (i := 51) (by decide +kernel) rfl), (eg_t0 (i := 51) (by decide +kernel))⟩
theorem wd_mtX11_clears : (mtX11_clears.1.cls ≠ "java/lang/invoke/MethodHandle" ∧ mtX11_clears.1.cls ≠ "java/lang/invoke/VarHandle" ∧ (parseMethodDescriptor mtX11_clears.1.desc).map (fun d => d.parameters.length) = some 0) ∧ mtX11_clears.2.2.1 ≤ 21 := by decide +kernel
theorem wi_mtX11_comesNow : Cond.initialized mtX11_comesNow.1.cls ∈ eg_T ∧ Cond.code mtX11_comesNow.1 mtX11_comesNow.2.1 mtX11_comesNow.2.2.1 mtX11_comesNow.2.2.2 ∈ eg_T := ⟨(eg_t1 (i := 12) (by decide +kernel) rfl), (eg_t8 (i := 25) rfl rfl)⟩
theorem ws_mtX11_comesNow : Cond.instanceMethod mtX11_comesNow.1 ∈ eg_T ∧ Cond.selects mtX11_comesNow.1.cls mtX11_comesNow.1 mtX11_comesNow.1 ∈ eg_T := ⟨(eg_t8 (i := 24) (by decide +kernel) rfl), (eg_t0 (i := 88) (by decide +kernel))⟩
theorem wd_mtX11_comesNow : (mtX11_comesNow.1.cls ≠ "java/lang/invoke/MethodHandle" ∧ mtX11_comesNow.1.cls ≠ "java/lang/invoke/VarHandle" ∧ (parseMethodDescriptor mtX11_comesNow.1.desc).map (fun d => d.parameters.length) = some 1) ∧ mtX11_comesNow.2.2.1 ≤ 21 := by decide +kernel
theorem wi_mtX11_compares : Cond.initialized mtX11_compares.1.cls ∈ eg_T ∧ Cond.code mtX11_compares.1 mtX11_compares.2.1 mtX11_compares.2.2.1 mtX11_compares.2.2.2 ∈ eg_T := ⟨(eg_t1 (i := 12) (by decide +kernel) rfl), (eg_t8 (i := 74) rfl rfl)⟩
theorem ws_mtX11_compares : Cond.static mtX11_compares.1 ∈ eg_T := (eg_t8 (i := 73) (by decide +kernel) rfl)
theorem wd_mtX11_compares : (mtX11_compares.1.cls ≠ "java/lang/invoke/MethodHandle" ∧ mtX11_compares.1.cls ≠ "java/lang/invoke/VarHandle" ∧ (parseMethodDescriptor mtX11_compares.1.desc).map (fun d => d.parameters.length) = some 3) ∧ mtX11_compares.2.2.1 ≤ 21 := by decide +kernel
theorem wi_mtX11_copies : Cond.initialized mtX11_copies.1.cls ∈ eg_T ∧ Cond.code mtX11_copies.1 mtX11_copies.2.1 mtX11_copies.2.2.1 mtX11_copies.2.2.2 ∈ eg_T := ⟨(eg_t1 (i := 12) (by decide +kernel) rfl), (eg_t6 (i := 48) rfl rfl)⟩
theorem ws_mtX11_copies : Cond.static mtX11_copies.1 ∈ eg_T := (eg_t6 (i := 47) (by decide +kernel) rfl)
theorem wd_mtX11_copies : (mtX11_copies.1.cls ≠ "java/lang/invoke/MethodHandle" ∧ mtX11_copies.1.cls ≠ "java/lang/invoke/VarHandle" ∧ (parseMethodDescriptor mtX11_copies.1.desc).map (fun d => d.parameters.length) = some 2) ∧ mtX11_copies.2.2.1 ≤ 21 := by decide +kernel
theorem wi_mtX11_costAt : Cond.initialized mtX11_costAt.1.cls ∈ eg_T ∧ Cond.code mtX11_costAt.1 mtX11_costAt.2.1 mtX11_costAt.2.2.1 mtX11_costAt.2.2.2 ∈ eg_T := ⟨(eg_t1 (i := 12) (by decide +kernel) rfl), (eg_t8 (i := 190) rfl rfl)⟩
theorem ws_mtX11_costAt : Cond.instanceMethod mtX11_costAt.1 ∈ eg_T ∧ Cond.selects mtX11_costAt.1.cls mtX11_costAt.1 mtX11_costAt.1 ∈ eg_T := ⟨(eg_t8 (i := 189) (by decide +kernel) rfl), (eg_t0 (i := 113) (by decide +kernel))⟩
theorem wd_mtX11_costAt : (mtX11_costAt.1.cls ≠ "java/lang/invoke/MethodHandle" ∧ mtX11_costAt.1.cls ≠ "java/lang/invoke/VarHandle" ∧ (parseMethodDescriptor mtX11_costAt.1.desc).map (fun d => d.parameters.length) = some 4) ∧ mtX11_costAt.2.2.1 ≤ 21 := by decide +kernel
theorem wi_mtX11_dropHeld : Cond.initialized mtX11_dropHeld.1.cls ∈ eg_T ∧ Cond.code mtX11_dropHeld.1 mtX11_dropHeld.2.1 mtX11_dropHeld.2.2.1 mtX11_dropHeld.2.2.2 ∈ eg_T := ⟨(eg_t1 (i := 12) (by decide +kernel) rfl), (eg_t7 (i := 209) rfl rfl)⟩
theorem ws_mtX11_dropHeld : Cond.instanceMethod mtX11_dropHeld.1 ∈ eg_T ∧ Cond.selects mtX11_dropHeld.1.cls mtX11_dropHeld.1 mtX11_dropHeld.1 ∈ eg_T := ⟨(eg_t7 (i := 208) (by decide +kernel) rfl), (eg_t0 (i := 81) (by decide +kernel))⟩
theorem wd_mtX11_dropHeld : (mtX11_dropHeld.1.cls ≠ "java/lang/invoke/MethodHandle" ∧ mtX11_dropHeld.1.cls ≠ "java/lang/invoke/VarHandle" ∧ (parseMethodDescriptor mtX11_dropHeld.1.desc).map (fun d => d.parameters.length) = some 0) ∧ mtX11_dropHeld.2.2.1 ≤ 21 := by decide +kernel
theorem wi_mtX11_everybody : Cond.initialized mtX11_everybody.1.cls ∈ eg_T ∧ Cond.code mtX11_everybody.1 mtX11_everybody.2.1 mtX11_everybody.2.2.1 mtX11_everybody.2.2.2 ∈ eg_T := ⟨(eg_t1 (i := 12) (by decide +kernel) rfl), (eg_t6 (i := 60) rfl rfl)⟩
theorem ws_mtX11_everybody : Cond.instanceMethod mtX11_everybody.1 ∈ eg_T ∧ Cond.selects mtX11_everybody.1.cls mtX11_everybody.1 mtX11_everybody.1 ∈ eg_T := ⟨(eg_t6 (i := 59) (by decide +kernel) rfl), (eg_t0 (i := 53) (by decide +kernel))⟩
theorem wd_mtX11_everybody : (mtX11_everybody.1.cls ≠ "java/lang/invoke/MethodHandle" ∧ mtX11_everybody.1.cls ≠ "java/lang/invoke/VarHandle" ∧ (parseMethodDescriptor mtX11_everybody.1.desc).map (fun d => d.parameters.length) = some 0) ∧ mtX11_everybody.2.2.1 ≤ 21 := by decide +kernel
theorem wi_mtX11_fails : Cond.initialized mtX11_fails.1.cls ∈ eg_T ∧ Cond.code mtX11_fails.1 mtX11_fails.2.1 mtX11_fails.2.2.1 mtX11_fails.2.2.2 ∈ eg_T := ⟨(eg_t1 (i := 12) (by decide +kernel) rfl), (eg_t7 (i := 233) rfl rfl)⟩
theorem ws_mtX11_fails : Cond.instanceMethod mtX11_fails.1 ∈ eg_T ∧ Cond.selects mtX11_fails.1.cls mtX11_fails.1 mtX11_fails.1 ∈ eg_T := ⟨(eg_t7 (i := 232) (by decide +kernel) rfl), (eg_t0 (i := 84) (by decide +kernel))⟩
theorem wd_mtX11_fails : (mtX11_fails.1.cls ≠ "java/lang/invoke/MethodHandle" ∧ mtX11_fails.1.cls ≠ "java/lang/invoke/VarHandle" ∧ (parseMethodDescriptor mtX11_fails.1.desc).map (fun d => d.parameters.length) = some 1) ∧ mtX11_fails.2.2.1 ≤ 21 := by decide +kernel
theorem wi_mtX11_find : Cond.initialized mtX11_find.1.cls ∈ eg_T ∧ Cond.code mtX11_find.1 mtX11_find.2.1 mtX11_find.2.2.1 mtX11_find.2.2.2 ∈ eg_T := ⟨(eg_t1 (i := 12) (by decide +kernel) rfl), (eg_t7 (i := 143) rfl rfl)⟩
theorem ws_mtX11_find : Cond.static mtX11_find.1 ∈ eg_T := (eg_t7 (i := 142) (by decide +kernel) rfl)
theorem wd_mtX11_find : (mtX11_find.1.cls ≠ "java/lang/invoke/MethodHandle" ∧ mtX11_find.1.cls ≠ "java/lang/invoke/VarHandle" ∧ (parseMethodDescriptor mtX11_find.1.desc).map (fun d => d.parameters.length) = some 4) ∧ mtX11_find.2.2.1 ≤ 21 := by decide +kernel
theorem wi_mtX11_goes : Cond.initialized mtX11_goes.1.cls ∈ eg_T ∧ Cond.code mtX11_goes.1 mtX11_goes.2.1 mtX11_goes.2.2.1 mtX11_goes.2.2.2 ∈ eg_T := ⟨(eg_t1 (i := 12) (by decide +kernel) rfl), (eg_t8 (i := 29) rfl rfl)⟩
theorem ws_mtX11_goes : Cond.instanceMethod mtX11_goes.1 ∈ eg_T ∧ Cond.selects mtX11_goes.1.cls mtX11_goes.1 mtX11_goes.1 ∈ eg_T := ⟨(eg_t8 (i := 28) (by decide +kernel) rfl), (eg_t0 (i := 89) (by decide +kernel))⟩
theorem wd_mtX11_goes : (mtX11_goes.1.cls ≠ "java/lang/invoke/MethodHandle" ∧ mtX11_goes.1.cls ≠ "java/lang/invoke/VarHandle" ∧ (parseMethodDescriptor mtX11_goes.1.desc).map (fun d => d.parameters.length) = some 1) ∧ mtX11_goes.2.2.1 ≤ 21 := by decide +kernel
theorem wi_mtX11_goesTo : Cond.initialized mtX11_goesTo.1.cls ∈ eg_T ∧ Cond.code mtX11_goesTo.1 mtX11_goesTo.2.1 mtX11_goesTo.2.2.1 mtX11_goesTo.2.2.2 ∈ eg_T := ⟨(eg_t1 (i := 12) (by decide +kernel) rfl), (eg_t8 (i := 82) rfl rfl)⟩
theorem ws_mtX11_goesTo : Cond.instanceMethod mtX11_goesTo.1 ∈ eg_T ∧ Cond.selects mtX11_goesTo.1.cls mtX11_goesTo.1 mtX11_goesTo.1 ∈ eg_T := ⟨(eg_t8 (i := 81) (by decide +kernel) rfl), (eg_t0 (i := 101) (by decide +kernel))⟩
theorem wd_mtX11_goesTo : (mtX11_goesTo.1.cls ≠ "java/lang/invoke/MethodHandle" ∧ mtX11_goesTo.1.cls ≠ "java/lang/invoke/VarHandle" ∧ (parseMethodDescriptor mtX11_goesTo.1.desc).map (fun d => d.parameters.length) = some 2) ∧ mtX11_goesTo.2.2.1 ≤ 21 := by decide +kernel
theorem wi_mtX11_grown : Cond.initialized mtX11_grown.1.cls ∈ eg_T ∧ Cond.code mtX11_grown.1 mtX11_grown.2.1 mtX11_grown.2.2.1 mtX11_grown.2.2.2 ∈ eg_T := ⟨(eg_t1 (i := 12) (by decide +kernel) rfl), (eg_t7 (i := 194) rfl rfl)⟩
theorem ws_mtX11_grown : Cond.instanceMethod mtX11_grown.1 ∈ eg_T ∧ Cond.selects mtX11_grown.1.cls mtX11_grown.1 mtX11_grown.1 ∈ eg_T := ⟨(eg_t7 (i := 193) (by decide +kernel) rfl), (eg_t0 (i := 78) (by decide +kernel))⟩
theorem wd_mtX11_grown : (mtX11_grown.1.cls ≠ "java/lang/invoke/MethodHandle" ∧ mtX11_grown.1.cls ≠ "java/lang/invoke/VarHandle" ∧ (parseMethodDescriptor mtX11_grown.1.desc).map (fun d => d.parameters.length) = some 3) ∧ mtX11_grown.2.2.1 ≤ 21 := by decide +kernel
theorem wi_mtX11_guestLine : Cond.initialized mtX11_guestLine.1.cls ∈ eg_T ∧ Cond.code mtX11_guestLine.1 mtX11_guestLine.2.1 mtX11_guestLine.2.2.1 mtX11_guestLine.2.2.2 ∈ eg_T := ⟨(eg_t1 (i := 12) (by decide +kernel) rfl), (eg_t7 (i := 158) rfl rfl)⟩
theorem ws_mtX11_guestLine : Cond.instanceMethod mtX11_guestLine.1 ∈ eg_T ∧ Cond.selects mtX11_guestLine.1.cls mtX11_guestLine.1 mtX11_guestLine.1 ∈ eg_T := ⟨(eg_t7 (i := 157) (by decide +kernel) rfl), (eg_t0 (i := 69) (by decide +kernel))⟩
theorem wd_mtX11_guestLine : (mtX11_guestLine.1.cls ≠ "java/lang/invoke/MethodHandle" ∧ mtX11_guestLine.1.cls ≠ "java/lang/invoke/VarHandle" ∧ (parseMethodDescriptor mtX11_guestLine.1.desc).map (fun d => d.parameters.length) = some 0) ∧ mtX11_guestLine.2.2.1 ≤ 21 := by decide +kernel
theorem wi_mtX11_has : Cond.initialized mtX11_has.1.cls ∈ eg_T ∧ Cond.code mtX11_has.1 mtX11_has.2.1 mtX11_has.2.2.1 mtX11_has.2.2.2 ∈ eg_T := ⟨(eg_t1 (i := 12) (by decide +kernel) rfl), (eg_t6 (i := 74) rfl rfl)⟩
theorem ws_mtX11_has : Cond.instanceMethod mtX11_has.1 ∈ eg_T ∧ Cond.selects mtX11_has.1.cls mtX11_has.1 mtX11_has.1 ∈ eg_T := ⟨(eg_t6 (i := 73) (by decide +kernel) rfl), (eg_t0 (i := 55) (by decide +kernel))⟩
theorem wd_mtX11_has : (mtX11_has.1.cls ≠ "java/lang/invoke/MethodHandle" ∧ mtX11_has.1.cls ≠ "java/lang/invoke/VarHandle" ∧ (parseMethodDescriptor mtX11_has.1.desc).map (fun d => d.parameters.length) = some 2) ∧ mtX11_has.2.2.1 ≤ 21 := by decide +kernel
theorem wi_mtX11_hasPan : Cond.initialized mtX11_hasPan.1.cls ∈ eg_T ∧ Cond.code mtX11_hasPan.1 mtX11_hasPan.2.1 mtX11_hasPan.2.2.1 mtX11_hasPan.2.2.2 ∈ eg_T := ⟨(eg_t1 (i := 12) (by decide +kernel) rfl), (eg_t8 (i := 5) rfl rfl)⟩
theorem ws_mtX11_hasPan : Cond.instanceMethod mtX11_hasPan.1 ∈ eg_T ∧ Cond.selects mtX11_hasPan.1.cls mtX11_hasPan.1 mtX11_hasPan.1 ∈ eg_T := ⟨(eg_t8 (i := 4) (by decide +kernel) rfl), (eg_t0 (i := 86) (by decide +kernel))⟩
theorem wd_mtX11_hasPan : (mtX11_hasPan.1.cls ≠ "java/lang/invoke/MethodHandle" ∧ mtX11_hasPan.1.cls ≠ "java/lang/invoke/VarHandle" ∧ (parseMethodDescriptor mtX11_hasPan.1.desc).map (fun d => d.parameters.length) = some 1) ∧ mtX11_hasPan.2.2.1 ≤ 21 := by decide +kernel
theorem wi_mtX11_heaps : Cond.initialized mtX11_heaps.1.cls ∈ eg_T ∧ Cond.code mtX11_heaps.1 mtX11_heaps.2.1 mtX11_heaps.2.2.1 mtX11_heaps.2.2.2 ∈ eg_T := ⟨(eg_t1 (i := 12) (by decide +kernel) rfl), (eg_t8 (i := 90) rfl rfl)⟩
theorem ws_mtX11_heaps : Cond.instanceMethod mtX11_heaps.1 ∈ eg_T ∧ Cond.selects mtX11_heaps.1.cls mtX11_heaps.1 mtX11_heaps.1 ∈ eg_T := ⟨(eg_t8 (i := 89) (by decide +kernel) rfl), (eg_t0 (i := 103) (by decide +kernel))⟩
theorem wd_mtX11_heaps : (mtX11_heaps.1.cls ≠ "java/lang/invoke/MethodHandle" ∧ mtX11_heaps.1.cls ≠ "java/lang/invoke/VarHandle" ∧ (parseMethodDescriptor mtX11_heaps.1.desc).map (fun d => d.parameters.length) = some 2) ∧ mtX11_heaps.2.2.1 ≤ 21 := by decide +kernel
theorem wi_mtX11_isBound : Cond.initialized mtX11_isBound.1.cls ∈ eg_T ∧ Cond.code mtX11_isBound.1 mtX11_isBound.2.1 mtX11_isBound.2.2.1 mtX11_isBound.2.2.2 ∈ eg_T := ⟨(eg_t1 (i := 12) (by decide +kernel) rfl), (eg_t8 (i := 150) rfl rfl)⟩
theorem ws_mtX11_isBound : Cond.static mtX11_isBound.1 ∈ eg_T := (eg_t8 (i := 149) (by decide +kernel) rfl)
theorem wd_mtX11_isBound : (mtX11_isBound.1.cls ≠ "java/lang/invoke/MethodHandle" ∧ mtX11_isBound.1.cls ≠ "java/lang/invoke/VarHandle" ∧ (parseMethodDescriptor mtX11_isBound.1.desc).map (fun d => d.parameters.length) = some 1) ∧ mtX11_isBound.2.2.1 ≤ 21 := by decide +kernel
theorem wi_mtX11_isCounted : Cond.initialized mtX11_isCounted.1.cls ∈ eg_T ∧ Cond.code mtX11_isCounted.1 mtX11_isCounted.2.1 mtX11_isCounted.2.2.1 mtX11_isCounted.2.2.2 ∈ eg_T := ⟨(eg_t1 (i := 12) (by decide +kernel) rfl), (eg_t7 (i := 190) rfl rfl)⟩
theorem ws_mtX11_isCounted : Cond.instanceMethod mtX11_isCounted.1 ∈ eg_T ∧ Cond.selects mtX11_isCounted.1.cls mtX11_isCounted.1 mtX11_isCounted.1 ∈ eg_T := ⟨(eg_t7 (i := 189) (by decide +kernel) rfl), (eg_t0 (i := 77) (by decide +kernel))⟩
theorem wd_mtX11_isCounted : (mtX11_isCounted.1.cls ≠ "java/lang/invoke/MethodHandle" ∧ mtX11_isCounted.1.cls ≠ "java/lang/invoke/VarHandle" ∧ (parseMethodDescriptor mtX11_isCounted.1.desc).map (fun d => d.parameters.length) = some 0) ∧ mtX11_isCounted.2.2.1 ≤ 21 := by decide +kernel
theorem wi_mtX11_isDigit : Cond.initialized mtX11_isDigit.1.cls ∈ eg_T ∧ Cond.code mtX11_isDigit.1 mtX11_isDigit.2.1 mtX11_isDigit.2.2.1 mtX11_isDigit.2.2.2 ∈ eg_T := ⟨(eg_t1 (i := 12) (by decide +kernel) rfl), (eg_t7 (i := 120) rfl rfl)⟩
theorem ws_mtX11_isDigit : Cond.instanceMethod mtX11_isDigit.1 ∈ eg_T ∧ Cond.selects mtX11_isDigit.1.cls mtX11_isDigit.1 mtX11_isDigit.1 ∈ eg_T := ⟨(eg_t7 (i := 119) (by decide +kernel) rfl), (eg_t0 (i := 61) (by decide +kernel))⟩
theorem wd_mtX11_isDigit : (mtX11_isDigit.1.cls ≠ "java/lang/invoke/MethodHandle" ∧ mtX11_isDigit.1.cls ≠ "java/lang/invoke/VarHandle" ∧ (parseMethodDescriptor mtX11_isDigit.1.desc).map (fun d => d.parameters.length) = some 1) ∧ mtX11_isDigit.2.2.1 ≤ 21 := by decide +kernel
theorem wi_mtX11_isFit : Cond.initialized mtX11_isFit.1.cls ∈ eg_T ∧ Cond.code mtX11_isFit.1 mtX11_isFit.2.1 mtX11_isFit.2.2.1 mtX11_isFit.2.2.2 ∈ eg_T := ⟨(eg_t1 (i := 12) (by decide +kernel) rfl), (eg_t8 (i := 235) rfl rfl)⟩
theorem ws_mtX11_isFit : Cond.instanceMethod mtX11_isFit.1 ∈ eg_T ∧ Cond.selects mtX11_isFit.1.cls mtX11_isFit.1 mtX11_isFit.1 ∈ eg_T := ⟨(eg_t8 (i := 234) (by decide +kernel) rfl), (eg_t0 (i := 115) (by decide +kernel))⟩
theorem wd_mtX11_isFit : (mtX11_isFit.1.cls ≠ "java/lang/invoke/MethodHandle" ∧ mtX11_isFit.1.cls ≠ "java/lang/invoke/VarHandle" ∧ (parseMethodDescriptor mtX11_isFit.1.desc).map (fun d => d.parameters.length) = some 1) ∧ mtX11_isFit.2.2.1 ≤ 21 := by decide +kernel
theorem wi_mtX11_isGuest : Cond.initialized mtX11_isGuest.1.cls ∈ eg_T ∧ Cond.code mtX11_isGuest.1 mtX11_isGuest.2.1 mtX11_isGuest.2.2.1 mtX11_isGuest.2.2.2 ∈ eg_T := ⟨(eg_t1 (i := 12) (by decide +kernel) rfl), (eg_t7 (i := 229) rfl rfl)⟩
theorem ws_mtX11_isGuest : Cond.instanceMethod mtX11_isGuest.1 ∈ eg_T ∧ Cond.selects mtX11_isGuest.1.cls mtX11_isGuest.1 mtX11_isGuest.1 ∈ eg_T := ⟨(eg_t7 (i := 228) (by decide +kernel) rfl), (eg_t0 (i := 83) (by decide +kernel))⟩
theorem wd_mtX11_isGuest : (mtX11_isGuest.1.cls ≠ "java/lang/invoke/MethodHandle" ∧ mtX11_isGuest.1.cls ≠ "java/lang/invoke/VarHandle" ∧ (parseMethodDescriptor mtX11_isGuest.1.desc).map (fun d => d.parameters.length) = some 1) ∧ mtX11_isGuest.2.2.1 ≤ 21 := by decide +kernel
theorem wi_mtX11_isIn : Cond.initialized mtX11_isIn.1.cls ∈ eg_T ∧ Cond.code mtX11_isIn.1 mtX11_isIn.2.1 mtX11_isIn.2.2.1 mtX11_isIn.2.2.2 ∈ eg_T := ⟨(eg_t1 (i := 12) (by decide +kernel) rfl), (eg_t7 (i := 150) rfl rfl)⟩
theorem ws_mtX11_isIn : Cond.static mtX11_isIn.1 ∈ eg_T := (eg_t7 (i := 149) (by decide +kernel) rfl)
theorem wd_mtX11_isIn : (mtX11_isIn.1.cls ≠ "java/lang/invoke/MethodHandle" ∧ mtX11_isIn.1.cls ≠ "java/lang/invoke/VarHandle" ∧ (parseMethodDescriptor mtX11_isIn.1.desc).map (fun d => d.parameters.length) = some 3) ∧ mtX11_isIn.2.2.1 ≤ 21 := by decide +kernel
theorem wi_mtX11_isKey : Cond.initialized mtX11_isKey.1.cls ∈ eg_T ∧ Cond.code mtX11_isKey.1 mtX11_isKey.2.1 mtX11_isKey.2.2.1 mtX11_isKey.2.2.2 ∈ eg_T := ⟨(eg_t1 (i := 12) (by decide +kernel) rfl), (eg_t7 (i := 154) rfl rfl)⟩
theorem ws_mtX11_isKey : Cond.instanceMethod mtX11_isKey.1 ∈ eg_T ∧ Cond.selects mtX11_isKey.1.cls mtX11_isKey.1 mtX11_isKey.1 ∈ eg_T := ⟨(eg_t7 (i := 153) (by decide +kernel) rfl), (eg_t0 (i := 68) (by decide +kernel))⟩
theorem wd_mtX11_isKey : (mtX11_isKey.1.cls ≠ "java/lang/invoke/MethodHandle" ∧ mtX11_isKey.1.cls ≠ "java/lang/invoke/VarHandle" ∧ (parseMethodDescriptor mtX11_isKey.1.desc).map (fun d => d.parameters.length) = some 1) ∧ mtX11_isKey.2.2.1 ≤ 21 := by decide +kernel
theorem wi_mtX11_isRule : Cond.initialized mtX11_isRule.1.cls ∈ eg_T ∧ Cond.code mtX11_isRule.1 mtX11_isRule.2.1 mtX11_isRule.2.2.1 mtX11_isRule.2.2.2 ∈ eg_T := ⟨(eg_t1 (i := 12) (by decide +kernel) rfl), (eg_t8 (i := 186) rfl rfl)⟩
theorem ws_mtX11_isRule : Cond.instanceMethod mtX11_isRule.1 ∈ eg_T ∧ Cond.selects mtX11_isRule.1.cls mtX11_isRule.1 mtX11_isRule.1 ∈ eg_T := ⟨(eg_t8 (i := 185) (by decide +kernel) rfl), (eg_t0 (i := 112) (by decide +kernel))⟩
theorem wd_mtX11_isRule : (mtX11_isRule.1.cls ≠ "java/lang/invoke/MethodHandle" ∧ mtX11_isRule.1.cls ≠ "java/lang/invoke/VarHandle" ∧ (parseMethodDescriptor mtX11_isRule.1.desc).map (fun d => d.parameters.length) = some 5) ∧ mtX11_isRule.2.2.1 ≤ 21 := by decide +kernel
theorem wi_mtX11_isSign : Cond.initialized mtX11_isSign.1.cls ∈ eg_T ∧ Cond.code mtX11_isSign.1 mtX11_isSign.2.1 mtX11_isSign.2.2.1 mtX11_isSign.2.2.2 ∈ eg_T := ⟨(eg_t1 (i := 12) (by decide +kernel) rfl), (eg_t7 (i := 178) rfl rfl)⟩
theorem ws_mtX11_isSign : Cond.instanceMethod mtX11_isSign.1 ∈ eg_T ∧ Cond.selects mtX11_isSign.1.cls mtX11_isSign.1 mtX11_isSign.1 ∈ eg_T := ⟨(eg_t7 (i := 177) (by decide +kernel) rfl), (eg_t0 (i := 74) (by decide +kernel))⟩
theorem wd_mtX11_isSign : (mtX11_isSign.1.cls ≠ "java/lang/invoke/MethodHandle" ∧ mtX11_isSign.1.cls ≠ "java/lang/invoke/VarHandle" ∧ (parseMethodDescriptor mtX11_isSign.1.desc).map (fun d => d.parameters.length) = some 1) ∧ mtX11_isSign.2.2.1 ≤ 21 := by decide +kernel
theorem wi_mtX11_isSmall : Cond.initialized mtX11_isSmall.1.cls ∈ eg_T ∧ Cond.code mtX11_isSmall.1 mtX11_isSmall.2.1 mtX11_isSmall.2.2.1 mtX11_isSmall.2.2.2 ∈ eg_T := ⟨(eg_t1 (i := 12) (by decide +kernel) rfl), (eg_t7 (i := 108) rfl rfl)⟩
theorem ws_mtX11_isSmall : Cond.instanceMethod mtX11_isSmall.1 ∈ eg_T ∧ Cond.selects mtX11_isSmall.1.cls mtX11_isSmall.1 mtX11_isSmall.1 ∈ eg_T := ⟨(eg_t7 (i := 107) (by decide +kernel) rfl), (eg_t0 (i := 58) (by decide +kernel))⟩
theorem wd_mtX11_isSmall : (mtX11_isSmall.1.cls ≠ "java/lang/invoke/MethodHandle" ∧ mtX11_isSmall.1.cls ≠ "java/lang/invoke/VarHandle" ∧ (parseMethodDescriptor mtX11_isSmall.1.desc).map (fun d => d.parameters.length) = some 1) ∧ mtX11_isSmall.2.2.1 ≤ 21 := by decide +kernel
theorem wi_mtX11_isStation : Cond.initialized mtX11_isStation.1.cls ∈ eg_T ∧ Cond.code mtX11_isStation.1 mtX11_isStation.2.1 mtX11_isStation.2.2.1 mtX11_isStation.2.2.2 ∈ eg_T := ⟨(eg_t1 (i := 12) (by decide +kernel) rfl), (eg_t8 (i := 1) rfl rfl)⟩
theorem ws_mtX11_isStation : Cond.instanceMethod mtX11_isStation.1 ∈ eg_T ∧ Cond.selects mtX11_isStation.1.cls mtX11_isStation.1 mtX11_isStation.1 ∈ eg_T := ⟨(eg_t8 (i := 0) (by decide +kernel) rfl), (eg_t0 (i := 85) (by decide +kernel))⟩
theorem wd_mtX11_isStation : (mtX11_isStation.1.cls ≠ "java/lang/invoke/MethodHandle" ∧ mtX11_isStation.1.cls ≠ "java/lang/invoke/VarHandle" ∧ (parseMethodDescriptor mtX11_isStation.1.desc).map (fun d => d.parameters.length) = some 1) ∧ mtX11_isStation.2.2.1 ≤ 21 := by decide +kernel
theorem wi_mtX11_isTime : Cond.initialized mtX11_isTime.1.cls ∈ eg_T ∧ Cond.code mtX11_isTime.1 mtX11_isTime.2.1 mtX11_isTime.2.2.1 mtX11_isTime.2.2.2 ∈ eg_T := ⟨(eg_t1 (i := 12) (by decide +kernel) rfl), (eg_t8 (i := 130) rfl rfl)⟩
theorem ws_mtX11_isTime : Cond.static mtX11_isTime.1 ∈ eg_T := (eg_t8 (i := 129) (by decide +kernel) rfl)
theorem wd_mtX11_isTime : (mtX11_isTime.1.cls ≠ "java/lang/invoke/MethodHandle" ∧ mtX11_isTime.1.cls ≠ "java/lang/invoke/VarHandle" ∧ (parseMethodDescriptor mtX11_isTime.1.desc).map (fun d => d.parameters.length) = some 1) ∧ mtX11_isTime.2.2.1 ≤ 21 := by decide +kernel
theorem wi_mtX11_keepText : Cond.initialized mtX11_keepText.1.cls ∈ eg_T ∧ Cond.code mtX11_keepText.1 mtX11_keepText.2.1 mtX11_keepText.2.2.1 mtX11_keepText.2.2.2 ∈ eg_T := ⟨(eg_t1 (i := 12) (by decide +kernel) rfl), (eg_t6 (i := 45) rfl rfl)⟩
theorem ws_mtX11_keepText : Cond.instanceMethod mtX11_keepText.1 ∈ eg_T ∧ Cond.selects mtX11_keepText.1.cls mtX11_keepText.1 mtX11_keepText.1 ∈ eg_T := ⟨(eg_t6 (i := 44) (by decide +kernel) rfl), (eg_t0 (i := 50) (by decide +kernel))⟩
theorem wd_mtX11_keepText : (mtX11_keepText.1.cls ≠ "java/lang/invoke/MethodHandle" ∧ mtX11_keepText.1.cls ≠ "java/lang/invoke/VarHandle" ∧ (parseMethodDescriptor mtX11_keepText.1.desc).map (fun d => d.parameters.length) = some 0) ∧ mtX11_keepText.2.2.1 ≤ 21 := by decide +kernel
theorem wi_mtX11_knownMany : Cond.initialized mtX11_knownMany.1.cls ∈ eg_T ∧ Cond.code mtX11_knownMany.1 mtX11_knownMany.2.1 mtX11_knownMany.2.2.1 mtX11_knownMany.2.2.2 ∈ eg_T := ⟨(eg_t1 (i := 12) (by decide +kernel) rfl), (eg_t8 (i := 231) rfl rfl)⟩
theorem ws_mtX11_knownMany : Cond.instanceMethod mtX11_knownMany.1 ∈ eg_T ∧ Cond.selects mtX11_knownMany.1.cls mtX11_knownMany.1 mtX11_knownMany.1 ∈ eg_T := ⟨(eg_t8 (i := 230) (by decide +kernel) rfl), (eg_t0 (i := 114) (by decide +kernel))⟩
theorem wd_mtX11_knownMany : (mtX11_knownMany.1.cls ≠ "java/lang/invoke/MethodHandle" ∧ mtX11_knownMany.1.cls ≠ "java/lang/invoke/VarHandle" ∧ (parseMethodDescriptor mtX11_knownMany.1.desc).map (fun d => d.parameters.length) = some 0) ∧ mtX11_knownMany.2.2.1 ≤ 21 := by decide +kernel
theorem wi_mtX11_lawKind : Cond.initialized mtX11_lawKind.1.cls ∈ eg_T ∧ Cond.code mtX11_lawKind.1 mtX11_lawKind.2.1 mtX11_lawKind.2.2.1 mtX11_lawKind.2.2.2 ∈ eg_T := ⟨(eg_t1 (i := 12) (by decide +kernel) rfl), (eg_t7 (i := 166) rfl rfl)⟩
theorem ws_mtX11_lawKind : Cond.instanceMethod mtX11_lawKind.1 ∈ eg_T ∧ Cond.selects mtX11_lawKind.1.cls mtX11_lawKind.1 mtX11_lawKind.1 ∈ eg_T := ⟨(eg_t7 (i := 165) (by decide +kernel) rfl), (eg_t0 (i := 71) (by decide +kernel))⟩
theorem wd_mtX11_lawKind : (mtX11_lawKind.1.cls ≠ "java/lang/invoke/MethodHandle" ∧ mtX11_lawKind.1.cls ≠ "java/lang/invoke/VarHandle" ∧ (parseMethodDescriptor mtX11_lawKind.1.desc).map (fun d => d.parameters.length) = some 0) ∧ mtX11_lawKind.2.2.1 ≤ 21 := by decide +kernel
theorem wi_mtX11_lawLine : Cond.initialized mtX11_lawLine.1.cls ∈ eg_T ∧ Cond.code mtX11_lawLine.1 mtX11_lawLine.2.1 mtX11_lawLine.2.2.1 mtX11_lawLine.2.2.2 ∈ eg_T := ⟨(eg_t1 (i := 12) (by decide +kernel) rfl), (eg_t7 (i := 162) rfl rfl)⟩
theorem ws_mtX11_lawLine : Cond.instanceMethod mtX11_lawLine.1 ∈ eg_T ∧ Cond.selects mtX11_lawLine.1.cls mtX11_lawLine.1 mtX11_lawLine.1 ∈ eg_T := ⟨(eg_t7 (i := 161) (by decide +kernel) rfl), (eg_t0 (i := 70) (by decide +kernel))⟩
theorem wd_mtX11_lawLine : (mtX11_lawLine.1.cls ≠ "java/lang/invoke/MethodHandle" ∧ mtX11_lawLine.1.cls ≠ "java/lang/invoke/VarHandle" ∧ (parseMethodDescriptor mtX11_lawLine.1.desc).map (fun d => d.parameters.length) = some 0) ∧ mtX11_lawLine.2.2.1 ≤ 21 := by decide +kernel
theorem wi_mtX11_lawOf : Cond.initialized mtX11_lawOf.1.cls ∈ eg_T ∧ Cond.code mtX11_lawOf.1 mtX11_lawOf.2.1 mtX11_lawOf.2.2.1 mtX11_lawOf.2.2.2 ∈ eg_T := ⟨(eg_t1 (i := 12) (by decide +kernel) rfl), (eg_t8 (i := 53) rfl rfl)⟩
theorem ws_mtX11_lawOf : Cond.instanceMethod mtX11_lawOf.1 ∈ eg_T ∧ Cond.selects mtX11_lawOf.1.cls mtX11_lawOf.1 mtX11_lawOf.1 ∈ eg_T := ⟨(eg_t8 (i := 52) (by decide +kernel) rfl), (eg_t0 (i := 95) (by decide +kernel))⟩
theorem wd_mtX11_lawOf : (mtX11_lawOf.1.cls ≠ "java/lang/invoke/MethodHandle" ∧ mtX11_lawOf.1.cls ≠ "java/lang/invoke/VarHandle" ∧ (parseMethodDescriptor mtX11_lawOf.1.desc).map (fun d => d.parameters.length) = some 2) ∧ mtX11_lawOf.2.2.1 ≤ 21 := by decide +kernel
theorem wi_mtX11_layNames : Cond.initialized mtX11_layNames.1.cls ∈ eg_T ∧ Cond.code mtX11_layNames.1 mtX11_layNames.2.1 mtX11_layNames.2.2.1 mtX11_layNames.2.2.2 ∈ eg_T := ⟨(eg_t1 (i := 12) (by decide +kernel) rfl), (eg_t8 (i := 49) rfl rfl)⟩
theorem ws_mtX11_layNames : Cond.instanceMethod mtX11_layNames.1 ∈ eg_T ∧ Cond.selects mtX11_layNames.1.cls mtX11_layNames.1 mtX11_layNames.1 ∈ eg_T := ⟨(eg_t8 (i := 48) (by decide +kernel) rfl), (eg_t0 (i := 94) (by decide +kernel))⟩
theorem wd_mtX11_layNames : (mtX11_layNames.1.cls ≠ "java/lang/invoke/MethodHandle" ∧ mtX11_layNames.1.cls ≠ "java/lang/invoke/VarHandle" ∧ (parseMethodDescriptor mtX11_layNames.1.desc).map (fun d => d.parameters.length) = some 4) ∧ mtX11_layNames.2.2.1 ≤ 21 := by decide +kernel
theorem wi_mtX11_layNamesAt : Cond.initialized mtX11_layNamesAt.1.cls ∈ eg_T ∧ Cond.code mtX11_layNamesAt.1 mtX11_layNamesAt.2.1 mtX11_layNamesAt.2.2.1 mtX11_layNamesAt.2.2.2 ∈ eg_T := ⟨(eg_t1 (i := 12) (by decide +kernel) rfl), (eg_t8 (i := 94) rfl rfl)⟩
theorem ws_mtX11_layNamesAt : Cond.instanceMethod mtX11_layNamesAt.1 ∈ eg_T ∧ Cond.selects mtX11_layNamesAt.1.cls mtX11_layNamesAt.1 mtX11_layNamesAt.1 ∈ eg_T := ⟨(eg_t8 (i := 93) (by decide +kernel) rfl), (eg_t0 (i := 104) (by decide +kernel))⟩
theorem wd_mtX11_layNamesAt : (mtX11_layNamesAt.1.cls ≠ "java/lang/invoke/MethodHandle" ∧ mtX11_layNamesAt.1.cls ≠ "java/lang/invoke/VarHandle" ∧ (parseMethodDescriptor mtX11_layNamesAt.1.desc).map (fun d => d.parameters.length) = some 2) ∧ mtX11_layNamesAt.2.2.1 ≤ 21 := by decide +kernel
theorem wi_mtX11_layRow : Cond.initialized mtX11_layRow.1.cls ∈ eg_T ∧ Cond.code mtX11_layRow.1 mtX11_layRow.2.1 mtX11_layRow.2.2.1 mtX11_layRow.2.2.2 ∈ eg_T := ⟨(eg_t1 (i := 12) (by decide +kernel) rfl), (eg_t8 (i := 115) rfl rfl)⟩
theorem ws_mtX11_layRow : Cond.instanceMethod mtX11_layRow.1 ∈ eg_T ∧ Cond.selects mtX11_layRow.1.cls mtX11_layRow.1 mtX11_layRow.1 ∈ eg_T := ⟨(eg_t8 (i := 114) (by decide +kernel) rfl), (eg_t0 (i := 107) (by decide +kernel))⟩
theorem wd_mtX11_layRow : (mtX11_layRow.1.cls ≠ "java/lang/invoke/MethodHandle" ∧ mtX11_layRow.1.cls ≠ "java/lang/invoke/VarHandle" ∧ (parseMethodDescriptor mtX11_layRow.1.desc).map (fun d => d.parameters.length) = some 0) ∧ mtX11_layRow.2.2.1 ≤ 21 := by decide +kernel
theorem wi_mtX11_lays : Cond.initialized mtX11_lays.1.cls ∈ eg_T ∧ Cond.code mtX11_lays.1 mtX11_lays.2.1 mtX11_lays.2.2.1 mtX11_lays.2.2.2 ∈ eg_T := ⟨(eg_t1 (i := 12) (by decide +kernel) rfl), (eg_t6 (i := 81) rfl rfl)⟩
theorem ws_mtX11_lays : Cond.static mtX11_lays.1 ∈ eg_T := (eg_t6 (i := 80) (by decide +kernel) rfl)
theorem wd_mtX11_lays : (mtX11_lays.1.cls ≠ "java/lang/invoke/MethodHandle" ∧ mtX11_lays.1.cls ≠ "java/lang/invoke/VarHandle" ∧ (parseMethodDescriptor mtX11_lays.1.desc).map (fun d => d.parameters.length) = some 2) ∧ mtX11_lays.2.2.1 ≤ 21 := by decide +kernel
theorem wi_mtX11_leafRead : Cond.initialized mtX11_leafRead.1.cls ∈ eg_T ∧ Cond.code mtX11_leafRead.1 mtX11_leafRead.2.1 mtX11_leafRead.2.2.1 mtX11_leafRead.2.2.2 ∈ eg_T := ⟨(eg_t1 (i := 12) (by decide +kernel) rfl), (eg_t7 (i := 182) rfl rfl)⟩
theorem ws_mtX11_leafRead : Cond.instanceMethod mtX11_leafRead.1 ∈ eg_T ∧ Cond.selects mtX11_leafRead.1.cls mtX11_leafRead.1 mtX11_leafRead.1 ∈ eg_T := ⟨(eg_t7 (i := 181) (by decide +kernel) rfl), (eg_t0 (i := 75) (by decide +kernel))⟩
theorem wd_mtX11_leafRead : (mtX11_leafRead.1.cls ≠ "java/lang/invoke/MethodHandle" ∧ mtX11_leafRead.1.cls ≠ "java/lang/invoke/VarHandle" ∧ (parseMethodDescriptor mtX11_leafRead.1.desc).map (fun d => d.parameters.length) = some 0) ∧ mtX11_leafRead.2.2.1 ≤ 21 := by decide +kernel
theorem wi_mtX11_lineRead : Cond.initialized mtX11_lineRead.1.cls ∈ eg_T ∧ Cond.code mtX11_lineRead.1 mtX11_lineRead.2.1 mtX11_lineRead.2.2.1 mtX11_lineRead.2.2.2 ∈ eg_T := ⟨(eg_t1 (i := 12) (by decide +kernel) rfl), (eg_t7 (i := 128) rfl rfl)⟩
theorem ws_mtX11_lineRead : Cond.instanceMethod mtX11_lineRead.1 ∈ eg_T ∧ Cond.selects mtX11_lineRead.1.cls mtX11_lineRead.1 mtX11_lineRead.1 ∈ eg_T := ⟨(eg_t7 (i := 127) (by decide +kernel) rfl), (eg_t0 (i := 63) (by decide +kernel))⟩
theorem wd_mtX11_lineRead : (mtX11_lineRead.1.cls ≠ "java/lang/invoke/MethodHandle" ∧ mtX11_lineRead.1.cls ≠ "java/lang/invoke/VarHandle" ∧ (parseMethodDescriptor mtX11_lineRead.1.desc).map (fun d => d.parameters.length) = some 0) ∧ mtX11_lineRead.2.2.1 ≤ 21 := by decide +kernel
theorem wi_mtX11_mayLine : Cond.initialized mtX11_mayLine.1.cls ∈ eg_T ∧ Cond.code mtX11_mayLine.1 mtX11_mayLine.2.1 mtX11_mayLine.2.2.1 mtX11_mayLine.2.2.2 ∈ eg_T := ⟨(eg_t1 (i := 12) (by decide +kernel) rfl), (eg_t7 (i := 213) rfl rfl)⟩
theorem ws_mtX11_mayLine : Cond.instanceMethod mtX11_mayLine.1 ∈ eg_T ∧ Cond.selects mtX11_mayLine.1.cls mtX11_mayLine.1 mtX11_mayLine.1 ∈ eg_T := ⟨(eg_t7 (i := 212) (by decide +kernel) rfl), (eg_t0 (i := 82) (by decide +kernel))⟩
theorem wd_mtX11_mayLine : (mtX11_mayLine.1.cls ≠ "java/lang/invoke/MethodHandle" ∧ mtX11_mayLine.1.cls ≠ "java/lang/invoke/VarHandle" ∧ (parseMethodDescriptor mtX11_mayLine.1.desc).map (fun d => d.parameters.length) = some 0) ∧ mtX11_mayLine.2.2.1 ≤ 21 := by decide +kernel
theorem wi_mtX11_newName : Cond.initialized mtX11_newName.1.cls ∈ eg_T ∧ Cond.code mtX11_newName.1 mtX11_newName.2.1 mtX11_newName.2.2.1 mtX11_newName.2.2.2 ∈ eg_T := ⟨(eg_t1 (i := 12) (by decide +kernel) rfl), (eg_t7 (i := 140) rfl rfl)⟩
theorem ws_mtX11_newName : Cond.instanceMethod mtX11_newName.1 ∈ eg_T ∧ Cond.selects mtX11_newName.1.cls mtX11_newName.1 mtX11_newName.1 ∈ eg_T := ⟨(eg_t7 (i := 139) (by decide +kernel) rfl), (eg_t0 (i := 66) (by decide +kernel))⟩
theorem wd_mtX11_newName : (mtX11_newName.1.cls ≠ "java/lang/invoke/MethodHandle" ∧ mtX11_newName.1.cls ≠ "java/lang/invoke/VarHandle" ∧ (parseMethodDescriptor mtX11_newName.1.desc).map (fun d => d.parameters.length) = some 3) ∧ mtX11_newName.2.2.1 ≤ 21 := by decide +kernel
theorem wi_mtX11_nextOf : Cond.initialized mtX11_nextOf.1.cls ∈ eg_T ∧ Cond.code mtX11_nextOf.1 mtX11_nextOf.2.1 mtX11_nextOf.2.2.1 mtX11_nextOf.2.2.2 ∈ eg_T := ⟨(eg_t1 (i := 12) (by decide +kernel) rfl), (eg_t8 (i := 33) rfl rfl)⟩
theorem ws_mtX11_nextOf : Cond.instanceMethod mtX11_nextOf.1 ∈ eg_T ∧ Cond.selects mtX11_nextOf.1.cls mtX11_nextOf.1 mtX11_nextOf.1 ∈ eg_T := ⟨(eg_t8 (i := 32) (by decide +kernel) rfl), (eg_t0 (i := 90) (by decide +kernel))⟩
theorem wd_mtX11_nextOf : (mtX11_nextOf.1.cls ≠ "java/lang/invoke/MethodHandle" ∧ mtX11_nextOf.1.cls ≠ "java/lang/invoke/VarHandle" ∧ (parseMethodDescriptor mtX11_nextOf.1.desc).map (fun d => d.parameters.length) = some 1) ∧ mtX11_nextOf.2.2.1 ≤ 21 := by decide +kernel
theorem wi_mtX11_nextOrder : Cond.initialized mtX11_nextOrder.1.cls ∈ eg_T ∧ Cond.code mtX11_nextOrder.1 mtX11_nextOrder.2.1 mtX11_nextOrder.2.2.1 mtX11_nextOrder.2.2.2 ∈ eg_T := ⟨(eg_t1 (i := 12) (by decide +kernel) rfl), (eg_t8 (i := 158) rfl rfl)⟩
theorem ws_mtX11_nextOrder : Cond.static mtX11_nextOrder.1 ∈ eg_T := (eg_t8 (i := 157) (by decide +kernel) rfl)
theorem wd_mtX11_nextOrder : (mtX11_nextOrder.1.cls ≠ "java/lang/invoke/MethodHandle" ∧ mtX11_nextOrder.1.cls ≠ "java/lang/invoke/VarHandle" ∧ (parseMethodDescriptor mtX11_nextOrder.1.desc).map (fun d => d.parameters.length) = some 2) ∧ mtX11_nextOrder.2.2.1 ≤ 21 := by decide +kernel
theorem wi_mtX11_number : Cond.initialized mtX11_number.1.cls ∈ eg_T ∧ Cond.code mtX11_number.1 mtX11_number.2.1 mtX11_number.2.2.1 mtX11_number.2.2.2 ∈ eg_T := ⟨(eg_t1 (i := 12) (by decide +kernel) rfl), (eg_t7 (i := 147) rfl rfl)⟩
theorem ws_mtX11_number : Cond.instanceMethod mtX11_number.1 ∈ eg_T ∧ Cond.selects mtX11_number.1.cls mtX11_number.1 mtX11_number.1 ∈ eg_T := ⟨(eg_t7 (i := 146) (by decide +kernel) rfl), (eg_t0 (i := 67) (by decide +kernel))⟩
theorem wd_mtX11_number : (mtX11_number.1.cls ≠ "java/lang/invoke/MethodHandle" ∧ mtX11_number.1.cls ≠ "java/lang/invoke/VarHandle" ∧ (parseMethodDescriptor mtX11_number.1.desc).map (fun d => d.parameters.length) = some 2) ∧ mtX11_number.2.2.1 ≤ 21 := by decide +kernel
theorem wi_mtX11_outOfLine : Cond.initialized mtX11_outOfLine.1.cls ∈ eg_T ∧ Cond.code mtX11_outOfLine.1 mtX11_outOfLine.2.1 mtX11_outOfLine.2.2.1 mtX11_outOfLine.2.2.2 ∈ eg_T := ⟨(eg_t1 (i := 12) (by decide +kernel) rfl), (eg_t8 (i := 78) rfl rfl)⟩
theorem ws_mtX11_outOfLine : Cond.instanceMethod mtX11_outOfLine.1 ∈ eg_T ∧ Cond.selects mtX11_outOfLine.1.cls mtX11_outOfLine.1 mtX11_outOfLine.1 ∈ eg_T := ⟨(eg_t8 (i := 77) (by decide +kernel) rfl), (eg_t0 (i := 100) (by decide +kernel))⟩
theorem wd_mtX11_outOfLine : (mtX11_outOfLine.1.cls ≠ "java/lang/invoke/MethodHandle" ∧ mtX11_outOfLine.1.cls ≠ "java/lang/invoke/VarHandle" ∧ (parseMethodDescriptor mtX11_outOfLine.1.desc).map (fun d => d.parameters.length) = some 1) ∧ mtX11_outOfLine.2.2.1 ≤ 21 := by decide +kernel
theorem wi_mtX11_packed : Cond.initialized mtX11_packed.1.cls ∈ eg_T ∧ Cond.code mtX11_packed.1 mtX11_packed.2.1 mtX11_packed.2.2.1 mtX11_packed.2.2.2 ∈ eg_T := ⟨(eg_t1 (i := 12) (by decide +kernel) rfl), (eg_t7 (i := 116) rfl rfl)⟩
theorem ws_mtX11_packed : Cond.instanceMethod mtX11_packed.1 ∈ eg_T ∧ Cond.selects mtX11_packed.1.cls mtX11_packed.1 mtX11_packed.1 ∈ eg_T := ⟨(eg_t7 (i := 115) (by decide +kernel) rfl), (eg_t0 (i := 60) (by decide +kernel))⟩
theorem wd_mtX11_packed : (mtX11_packed.1.cls ≠ "java/lang/invoke/MethodHandle" ∧ mtX11_packed.1.cls ≠ "java/lang/invoke/VarHandle" ∧ (parseMethodDescriptor mtX11_packed.1.desc).map (fun d => d.parameters.length) = some 2) ∧ mtX11_packed.2.2.1 ≤ 21 := by decide +kernel
theorem wi_mtX11_pan : Cond.initialized mtX11_pan.1.cls ∈ eg_T ∧ Cond.code mtX11_pan.1 mtX11_pan.2.1 mtX11_pan.2.2.1 mtX11_pan.2.2.2 ∈ eg_T := ⟨(eg_t1 (i := 12) (by decide +kernel) rfl), (eg_t6 (i := 70) rfl rfl)⟩
theorem ws_mtX11_pan : Cond.static mtX11_pan.1 ∈ eg_T := (eg_t6 (i := 69) (by decide +kernel) rfl)
theorem wd_mtX11_pan : (mtX11_pan.1.cls ≠ "java/lang/invoke/MethodHandle" ∧ mtX11_pan.1.cls ≠ "java/lang/invoke/VarHandle" ∧ (parseMethodDescriptor mtX11_pan.1.desc).map (fun d => d.parameters.length) = some 1) ∧ mtX11_pan.2.2.1 ≤ 21 := by decide +kernel
theorem wi_mtX11_pansGo : Cond.initialized mtX11_pansGo.1.cls ∈ eg_T ∧ Cond.code mtX11_pansGo.1 mtX11_pansGo.2.1 mtX11_pansGo.2.2.1 mtX11_pansGo.2.2.2 ∈ eg_T := ⟨(eg_t1 (i := 12) (by decide +kernel) rfl), (eg_t8 (i := 99) rfl rfl)⟩
theorem ws_mtX11_pansGo : Cond.instanceMethod mtX11_pansGo.1 ∈ eg_T ∧ Cond.selects mtX11_pansGo.1.cls mtX11_pansGo.1 mtX11_pansGo.1 ∈ eg_T := ⟨(eg_t8 (i := 98) (by decide +kernel) rfl), (eg_t0 (i := 105) (by decide +kernel))⟩
theorem wd_mtX11_pansGo : (mtX11_pansGo.1.cls ≠ "java/lang/invoke/MethodHandle" ∧ mtX11_pansGo.1.cls ≠ "java/lang/invoke/VarHandle" ∧ (parseMethodDescriptor mtX11_pansGo.1.desc).map (fun d => d.parameters.length) = some 0) ∧ mtX11_pansGo.2.2.1 ≤ 21 := by decide +kernel
theorem wi_mtX11_plain : Cond.initialized mtX11_plain.1.cls ∈ eg_T ∧ Cond.code mtX11_plain.1 mtX11_plain.2.1 mtX11_plain.2.2.1 mtX11_plain.2.2.2 ∈ eg_T := ⟨(eg_t1 (i := 12) (by decide +kernel) rfl), (eg_t6 (i := 41) rfl rfl)⟩
theorem ws_mtX11_plain : Cond.instanceMethod mtX11_plain.1 ∈ eg_T ∧ Cond.selects mtX11_plain.1.cls mtX11_plain.1 mtX11_plain.1 ∈ eg_T := ⟨(eg_t6 (i := 40) (by decide +kernel) rfl), (eg_t0 (i := 49) (by decide +kernel))⟩
theorem wd_mtX11_plain : (mtX11_plain.1.cls ≠ "java/lang/invoke/MethodHandle" ∧ mtX11_plain.1.cls ≠ "java/lang/invoke/VarHandle" ∧ (parseMethodDescriptor mtX11_plain.1.desc).map (fun d => d.parameters.length) = some 0) ∧ mtX11_plain.2.2.1 ≤ 21 := by decide +kernel
theorem wi_mtX11_plateOf : Cond.initialized mtX11_plateOf.1.cls ∈ eg_T ∧ Cond.code mtX11_plateOf.1 mtX11_plateOf.2.1 mtX11_plateOf.2.2.1 mtX11_plateOf.2.2.2 ∈ eg_T := ⟨(eg_t1 (i := 12) (by decide +kernel) rfl), (eg_t8 (i := 41) rfl rfl)⟩
theorem ws_mtX11_plateOf : Cond.instanceMethod mtX11_plateOf.1 ∈ eg_T ∧ Cond.selects mtX11_plateOf.1.cls mtX11_plateOf.1 mtX11_plateOf.1 ∈ eg_T := ⟨(eg_t8 (i := 40) (by decide +kernel) rfl), (eg_t0 (i := 92) (by decide +kernel))⟩
theorem wd_mtX11_plateOf : (mtX11_plateOf.1.cls ≠ "java/lang/invoke/MethodHandle" ∧ mtX11_plateOf.1.cls ≠ "java/lang/invoke/VarHandle" ∧ (parseMethodDescriptor mtX11_plateOf.1.desc).map (fun d => d.parameters.length) = some 1) ∧ mtX11_plateOf.2.2.1 ≤ 21 := by decide +kernel
theorem wi_mtX11_portionsOf : Cond.initialized mtX11_portionsOf.1.cls ∈ eg_T ∧ Cond.code mtX11_portionsOf.1 mtX11_portionsOf.2.1 mtX11_portionsOf.2.2.1 mtX11_portionsOf.2.2.2 ∈ eg_T := ⟨(eg_t1 (i := 12) (by decide +kernel) rfl), (eg_t6 (i := 78) rfl rfl)⟩
theorem ws_mtX11_portionsOf : Cond.instanceMethod mtX11_portionsOf.1 ∈ eg_T ∧ Cond.selects mtX11_portionsOf.1.cls mtX11_portionsOf.1 mtX11_portionsOf.1 ∈ eg_T := ⟨(eg_t6 (i := 77) (by decide +kernel) rfl), (eg_t0 (i := 56) (by decide +kernel))⟩
theorem wd_mtX11_portionsOf : (mtX11_portionsOf.1.cls ≠ "java/lang/invoke/MethodHandle" ∧ mtX11_portionsOf.1.cls ≠ "java/lang/invoke/VarHandle" ∧ (parseMethodDescriptor mtX11_portionsOf.1.desc).map (fun d => d.parameters.length) = some 1) ∧ mtX11_portionsOf.2.2.1 ≤ 21 := by decide +kernel
theorem wi_mtX11_rank : Cond.initialized mtX11_rank.1.cls ∈ eg_T ∧ Cond.code mtX11_rank.1 mtX11_rank.2.1 mtX11_rank.2.2.1 mtX11_rank.2.2.2 ∈ eg_T := ⟨(eg_t1 (i := 12) (by decide +kernel) rfl), (eg_t7 (i := 205) rfl rfl)⟩
theorem ws_mtX11_rank : Cond.static mtX11_rank.1 ∈ eg_T := (eg_t7 (i := 204) (by decide +kernel) rfl)
theorem wd_mtX11_rank : (mtX11_rank.1.cls ≠ "java/lang/invoke/MethodHandle" ∧ mtX11_rank.1.cls ≠ "java/lang/invoke/VarHandle" ∧ (parseMethodDescriptor mtX11_rank.1.desc).map (fun d => d.parameters.length) = some 1) ∧ mtX11_rank.2.2.1 ≤ 21 := by decide +kernel
theorem wi_mtX11_remembers : Cond.initialized mtX11_remembers.1.cls ∈ eg_T ∧ Cond.code mtX11_remembers.1 mtX11_remembers.2.1 mtX11_remembers.2.2.1 mtX11_remembers.2.2.2 ∈ eg_T := ⟨(eg_t1 (i := 12) (by decide +kernel) rfl), (eg_t8 (i := 107) rfl rfl)⟩
theorem ws_mtX11_remembers : Cond.instanceMethod mtX11_remembers.1 ∈ eg_T ∧ Cond.selects mtX11_remembers.1.cls mtX11_remembers.1 mtX11_remembers.1 ∈ eg_T := ⟨(eg_t8 (i := 106) (by decide +kernel) rfl), (eg_t0 (i := 106) (by decide +kernel))⟩
theorem wd_mtX11_remembers : (mtX11_remembers.1.cls ≠ "java/lang/invoke/MethodHandle" ∧ mtX11_remembers.1.cls ≠ "java/lang/invoke/VarHandle" ∧ (parseMethodDescriptor mtX11_remembers.1.desc).map (fun d => d.parameters.length) = some 0) ∧ mtX11_remembers.2.2.1 ≤ 21 := by decide +kernel
theorem wi_mtX11_runs : Cond.initialized mtX11_runs.1.cls ∈ eg_T ∧ Cond.code mtX11_runs.1 mtX11_runs.2.1 mtX11_runs.2.2.1 mtX11_runs.2.2.2 ∈ eg_T := ⟨(eg_t1 (i := 12) (by decide +kernel) rfl), (eg_t8 (i := 134) rfl rfl)⟩
theorem ws_mtX11_runs : Cond.instanceMethod mtX11_runs.1 ∈ eg_T ∧ Cond.selects mtX11_runs.1.cls mtX11_runs.1 mtX11_runs.1 ∈ eg_T := ⟨(eg_t8 (i := 133) (by decide +kernel) rfl), (eg_t0 (i := 108) (by decide +kernel))⟩
theorem wd_mtX11_runs : (mtX11_runs.1.cls ≠ "java/lang/invoke/MethodHandle" ∧ mtX11_runs.1.cls ≠ "java/lang/invoke/VarHandle" ∧ (parseMethodDescriptor mtX11_runs.1.desc).map (fun d => d.parameters.length) = some 1) ∧ mtX11_runs.2.2.1 ≤ 21 := by decide +kernel
theorem wi_mtX11_second : Cond.initialized mtX11_second.1.cls ∈ eg_T ∧ Cond.code mtX11_second.1 mtX11_second.2.1 mtX11_second.2.2.1 mtX11_second.2.2.2 ∈ eg_T := ⟨(eg_t1 (i := 12) (by decide +kernel) rfl), (eg_t8 (i := 21) rfl rfl)⟩
theorem ws_mtX11_second : Cond.instanceMethod mtX11_second.1 ∈ eg_T ∧ Cond.selects mtX11_second.1.cls mtX11_second.1 mtX11_second.1 ∈ eg_T := ⟨(eg_t8 (i := 20) (by decide +kernel) rfl), (eg_t0 (i := 87) (by decide +kernel))⟩
theorem wd_mtX11_second : (mtX11_second.1.cls ≠ "java/lang/invoke/MethodHandle" ∧ mtX11_second.1.cls ≠ "java/lang/invoke/VarHandle" ∧ (parseMethodDescriptor mtX11_second.1.desc).map (fun d => d.parameters.length) = some 0) ∧ mtX11_second.2.2.1 ≤ 21 := by decide +kernel
theorem wi_mtX11_signToken : Cond.initialized mtX11_signToken.1.cls ∈ eg_T ∧ Cond.code mtX11_signToken.1 mtX11_signToken.2.1 mtX11_signToken.2.2.1 mtX11_signToken.2.2.2 ∈ eg_T := ⟨(eg_t1 (i := 12) (by decide +kernel) rfl), (eg_t7 (i := 124) rfl rfl)⟩
theorem ws_mtX11_signToken : Cond.instanceMethod mtX11_signToken.1 ∈ eg_T ∧ Cond.selects mtX11_signToken.1.cls mtX11_signToken.1 mtX11_signToken.1 ∈ eg_T := ⟨(eg_t7 (i := 123) (by decide +kernel) rfl), (eg_t0 (i := 62) (by decide +kernel))⟩
theorem wd_mtX11_signToken : (mtX11_signToken.1.cls ≠ "java/lang/invoke/MethodHandle" ∧ mtX11_signToken.1.cls ≠ "java/lang/invoke/VarHandle" ∧ (parseMethodDescriptor mtX11_signToken.1.desc).map (fun d => d.parameters.length) = some 0) ∧ mtX11_signToken.2.2.1 ≤ 21 := by decide +kernel
theorem wi_mtX11_signs : Cond.initialized mtX11_signs.1.cls ∈ eg_T ∧ Cond.code mtX11_signs.1 mtX11_signs.2.1 mtX11_signs.2.2.1 mtX11_signs.2.2.2 ∈ eg_T := ⟨(eg_t1 (i := 12) (by decide +kernel) rfl), (eg_t7 (i := 198) rfl rfl)⟩
theorem ws_mtX11_signs : Cond.instanceMethod mtX11_signs.1 ∈ eg_T ∧ Cond.selects mtX11_signs.1.cls mtX11_signs.1 mtX11_signs.1 ∈ eg_T := ⟨(eg_t7 (i := 197) (by decide +kernel) rfl), (eg_t0 (i := 79) (by decide +kernel))⟩
theorem wd_mtX11_signs : (mtX11_signs.1.cls ≠ "java/lang/invoke/MethodHandle" ∧ mtX11_signs.1.cls ≠ "java/lang/invoke/VarHandle" ∧ (parseMethodDescriptor mtX11_signs.1.desc).map (fun d => d.parameters.length) = some 0) ∧ mtX11_signs.2.2.1 ≤ 21 := by decide +kernel
theorem wi_mtX11_sits : Cond.initialized mtX11_sits.1.cls ∈ eg_T ∧ Cond.code mtX11_sits.1 mtX11_sits.2.1 mtX11_sits.2.2.1 mtX11_sits.2.2.2 ∈ eg_T := ⟨(eg_t1 (i := 12) (by decide +kernel) rfl), (eg_t8 (i := 37) rfl rfl)⟩
theorem ws_mtX11_sits : Cond.instanceMethod mtX11_sits.1 ∈ eg_T ∧ Cond.selects mtX11_sits.1.cls mtX11_sits.1 mtX11_sits.1 ∈ eg_T := ⟨(eg_t8 (i := 36) (by decide +kernel) rfl), (eg_t0 (i := 91) (by decide +kernel))⟩
theorem wd_mtX11_sits : (mtX11_sits.1.cls ≠ "java/lang/invoke/MethodHandle" ∧ mtX11_sits.1.cls ≠ "java/lang/invoke/VarHandle" ∧ (parseMethodDescriptor mtX11_sits.1.desc).map (fun d => d.parameters.length) = some 1) ∧ mtX11_sits.2.2.1 ≤ 21 := by decide +kernel
theorem wi_mtX11_sizeOf : Cond.initialized mtX11_sizeOf.1.cls ∈ eg_T ∧ Cond.code mtX11_sizeOf.1 mtX11_sizeOf.2.1 mtX11_sizeOf.2.2.1 mtX11_sizeOf.2.2.2 ∈ eg_T := ⟨(eg_t1 (i := 12) (by decide +kernel) rfl), (eg_t6 (i := 67) rfl rfl)⟩
theorem ws_mtX11_sizeOf : Cond.instanceMethod mtX11_sizeOf.1 ∈ eg_T ∧ Cond.selects mtX11_sizeOf.1.cls mtX11_sizeOf.1 mtX11_sizeOf.1 ∈ eg_T := ⟨(eg_t6 (i := 66) (by decide +kernel) rfl), (eg_t0 (i := 54) (by decide +kernel))⟩
theorem wd_mtX11_sizeOf : (mtX11_sizeOf.1.cls ≠ "java/lang/invoke/MethodHandle" ∧ mtX11_sizeOf.1.cls ≠ "java/lang/invoke/VarHandle" ∧ (parseMethodDescriptor mtX11_sizeOf.1.desc).map (fun d => d.parameters.length) = some 1) ∧ mtX11_sizeOf.2.2.1 ≤ 21 := by decide +kernel
theorem wi_mtX11_stationLine : Cond.initialized mtX11_stationLine.1.cls ∈ eg_T ∧ Cond.code mtX11_stationLine.1 mtX11_stationLine.2.1 mtX11_stationLine.2.2.1 mtX11_stationLine.2.2.2 ∈ eg_T := ⟨(eg_t1 (i := 12) (by decide +kernel) rfl), (eg_t7 (i := 136) rfl rfl)⟩
theorem ws_mtX11_stationLine : Cond.instanceMethod mtX11_stationLine.1 ∈ eg_T ∧ Cond.selects mtX11_stationLine.1.cls mtX11_stationLine.1 mtX11_stationLine.1 ∈ eg_T := ⟨(eg_t7 (i := 135) (by decide +kernel) rfl), (eg_t0 (i := 65) (by decide +kernel))⟩
theorem wd_mtX11_stationLine : (mtX11_stationLine.1.cls ≠ "java/lang/invoke/MethodHandle" ∧ mtX11_stationLine.1.cls ≠ "java/lang/invoke/VarHandle" ∧ (parseMethodDescriptor mtX11_stationLine.1.desc).map (fun d => d.parameters.length) = some 0) ∧ mtX11_stationLine.2.2.1 ≤ 21 := by decide +kernel
theorem wi_mtX11_sumBy : Cond.initialized mtX11_sumBy.1.cls ∈ eg_T ∧ Cond.code mtX11_sumBy.1 mtX11_sumBy.2.1 mtX11_sumBy.2.2.1 mtX11_sumBy.2.2.2 ∈ eg_T := ⟨(eg_t1 (i := 12) (by decide +kernel) rfl), (eg_t8 (i := 174) rfl rfl)⟩
theorem ws_mtX11_sumBy : Cond.instanceMethod mtX11_sumBy.1 ∈ eg_T ∧ Cond.selects mtX11_sumBy.1.cls mtX11_sumBy.1 mtX11_sumBy.1 ∈ eg_T := ⟨(eg_t8 (i := 173) (by decide +kernel) rfl), (eg_t0 (i := 111) (by decide +kernel))⟩
theorem wd_mtX11_sumBy : (mtX11_sumBy.1.cls ≠ "java/lang/invoke/MethodHandle" ∧ mtX11_sumBy.1.cls ≠ "java/lang/invoke/VarHandle" ∧ (parseMethodDescriptor mtX11_sumBy.1.desc).map (fun d => d.parameters.length) = some 1) ∧ mtX11_sumBy.2.2.1 ≤ 21 := by decide +kernel
theorem wi_mtX11_sumInto : Cond.initialized mtX11_sumInto.1.cls ∈ eg_T ∧ Cond.code mtX11_sumInto.1 mtX11_sumInto.2.1 mtX11_sumInto.2.2.1 mtX11_sumInto.2.2.2 ∈ eg_T := ⟨(eg_t1 (i := 12) (by decide +kernel) rfl), (eg_t7 (i := 170) rfl rfl)⟩
theorem ws_mtX11_sumInto : Cond.instanceMethod mtX11_sumInto.1 ∈ eg_T ∧ Cond.selects mtX11_sumInto.1.cls mtX11_sumInto.1 mtX11_sumInto.1 ∈ eg_T := ⟨(eg_t7 (i := 169) (by decide +kernel) rfl), (eg_t0 (i := 72) (by decide +kernel))⟩
theorem wd_mtX11_sumInto : (mtX11_sumInto.1.cls ≠ "java/lang/invoke/MethodHandle" ∧ mtX11_sumInto.1.cls ≠ "java/lang/invoke/VarHandle" ∧ (parseMethodDescriptor mtX11_sumInto.1.desc).map (fun d => d.parameters.length) = some 1) ∧ mtX11_sumInto.2.2.1 ≤ 21 := by decide +kernel
theorem wi_mtX11_sumOf : Cond.initialized mtX11_sumOf.1.cls ∈ eg_T ∧ Cond.code mtX11_sumOf.1 mtX11_sumOf.2.1 mtX11_sumOf.2.2.1 mtX11_sumOf.2.2.2 ∈ eg_T := ⟨(eg_t1 (i := 12) (by decide +kernel) rfl), (eg_t8 (i := 57) rfl rfl)⟩
theorem ws_mtX11_sumOf : Cond.instanceMethod mtX11_sumOf.1 ∈ eg_T ∧ Cond.selects mtX11_sumOf.1.cls mtX11_sumOf.1 mtX11_sumOf.1 ∈ eg_T := ⟨(eg_t8 (i := 56) (by decide +kernel) rfl), (eg_t0 (i := 96) (by decide +kernel))⟩
theorem wd_mtX11_sumOf : (mtX11_sumOf.1.cls ≠ "java/lang/invoke/MethodHandle" ∧ mtX11_sumOf.1.cls ≠ "java/lang/invoke/VarHandle" ∧ (parseMethodDescriptor mtX11_sumOf.1.desc).map (fun d => d.parameters.length) = some 1) ∧ mtX11_sumOf.2.2.1 ≤ 21 := by decide +kernel
theorem wi_mtX11_sumRead : Cond.initialized mtX11_sumRead.1.cls ∈ eg_T ∧ Cond.code mtX11_sumRead.1 mtX11_sumRead.2.1 mtX11_sumRead.2.2.1 mtX11_sumRead.2.2.2 ∈ eg_T := ⟨(eg_t1 (i := 12) (by decide +kernel) rfl), (eg_t7 (i := 174) rfl rfl)⟩
theorem ws_mtX11_sumRead : Cond.instanceMethod mtX11_sumRead.1 ∈ eg_T ∧ Cond.selects mtX11_sumRead.1.cls mtX11_sumRead.1 mtX11_sumRead.1 ∈ eg_T := ⟨(eg_t7 (i := 173) (by decide +kernel) rfl), (eg_t0 (i := 73) (by decide +kernel))⟩
theorem wd_mtX11_sumRead : (mtX11_sumRead.1.cls ≠ "java/lang/invoke/MethodHandle" ∧ mtX11_sumRead.1.cls ≠ "java/lang/invoke/VarHandle" ∧ (parseMethodDescriptor mtX11_sumRead.1.desc).map (fun d => d.parameters.length) = some 0) ∧ mtX11_sumRead.2.2.1 ≤ 21 := by decide +kernel
theorem wi_mtX11_takenAt : Cond.initialized mtX11_takenAt.1.cls ∈ eg_T ∧ Cond.code mtX11_takenAt.1 mtX11_takenAt.2.1 mtX11_takenAt.2.2.1 mtX11_takenAt.2.2.2 ∈ eg_T := ⟨(eg_t1 (i := 12) (by decide +kernel) rfl), (eg_t8 (i := 166) rfl rfl)⟩
theorem ws_mtX11_takenAt : Cond.instanceMethod mtX11_takenAt.1 ∈ eg_T ∧ Cond.selects mtX11_takenAt.1.cls mtX11_takenAt.1 mtX11_takenAt.1 ∈ eg_T := ⟨(eg_t8 (i := 165) (by decide +kernel) rfl), (eg_t0 (i := 110) (by decide +kernel))⟩
theorem wd_mtX11_takenAt : (mtX11_takenAt.1.cls ≠ "java/lang/invoke/MethodHandle" ∧ mtX11_takenAt.1.cls ≠ "java/lang/invoke/VarHandle" ∧ (parseMethodDescriptor mtX11_takenAt.1.desc).map (fun d => d.parameters.length) = some 3) ∧ mtX11_takenAt.2.2.1 ≤ 21 := by decide +kernel
theorem wi_mtX11_takersAt : Cond.initialized mtX11_takersAt.1.cls ∈ eg_T ∧ Cond.code mtX11_takersAt.1 mtX11_takersAt.2.1 mtX11_takersAt.2.2.1 mtX11_takersAt.2.2.2 ∈ eg_T := ⟨(eg_t1 (i := 12) (by decide +kernel) rfl), (eg_t8 (i := 86) rfl rfl)⟩
theorem ws_mtX11_takersAt : Cond.instanceMethod mtX11_takersAt.1 ∈ eg_T ∧ Cond.selects mtX11_takersAt.1.cls mtX11_takersAt.1 mtX11_takersAt.1 ∈ eg_T := ⟨(eg_t8 (i := 85) (by decide +kernel) rfl), (eg_t0 (i := 102) (by decide +kernel))⟩
theorem wd_mtX11_takersAt : (mtX11_takersAt.1.cls ≠ "java/lang/invoke/MethodHandle" ∧ mtX11_takersAt.1.cls ≠ "java/lang/invoke/VarHandle" ∧ (parseMethodDescriptor mtX11_takersAt.1.desc).map (fun d => d.parameters.length) = some 1) ∧ mtX11_takersAt.2.2.1 ≤ 21 := by decide +kernel
theorem wi_mtX11_times : Cond.initialized mtX11_times.1.cls ∈ eg_T ∧ Cond.code mtX11_times.1 mtX11_times.2.1 mtX11_times.2.2.1 mtX11_times.2.2.2 ∈ eg_T := ⟨(eg_t1 (i := 12) (by decide +kernel) rfl), (eg_t8 (i := 71) rfl rfl)⟩
theorem ws_mtX11_times : Cond.instanceMethod mtX11_times.1 ∈ eg_T ∧ Cond.selects mtX11_times.1.cls mtX11_times.1 mtX11_times.1 ∈ eg_T := ⟨(eg_t8 (i := 70) (by decide +kernel) rfl), (eg_t0 (i := 99) (by decide +kernel))⟩
theorem wd_mtX11_times : (mtX11_times.1.cls ≠ "java/lang/invoke/MethodHandle" ∧ mtX11_times.1.cls ≠ "java/lang/invoke/VarHandle" ∧ (parseMethodDescriptor mtX11_times.1.desc).map (fun d => d.parameters.length) = some 2) ∧ mtX11_times.2.2.1 ≤ 21 := by decide +kernel
theorem wi_mtX11_token : Cond.initialized mtX11_token.1.cls ∈ eg_T ∧ Cond.code mtX11_token.1 mtX11_token.2.1 mtX11_token.2.2.1 mtX11_token.2.2.2 ∈ eg_T := ⟨(eg_t1 (i := 12) (by decide +kernel) rfl), (eg_t7 (i := 104) rfl rfl)⟩
theorem ws_mtX11_token : Cond.instanceMethod mtX11_token.1 ∈ eg_T ∧ Cond.selects mtX11_token.1.cls mtX11_token.1 mtX11_token.1 ∈ eg_T := ⟨(eg_t7 (i := 103) (by decide +kernel) rfl), (eg_t0 (i := 57) (by decide +kernel))⟩
theorem wd_mtX11_token : (mtX11_token.1.cls ≠ "java/lang/invoke/MethodHandle" ∧ mtX11_token.1.cls ≠ "java/lang/invoke/VarHandle" ∧ (parseMethodDescriptor mtX11_token.1.desc).map (fun d => d.parameters.length) = some 0) ∧ mtX11_token.2.2.1 ≤ 21 := by decide +kernel
theorem wi_mtX11_truthSum : Cond.initialized mtX11_truthSum.1.cls ∈ eg_T ∧ Cond.code mtX11_truthSum.1 mtX11_truthSum.2.1 mtX11_truthSum.2.2.1 mtX11_truthSum.2.2.2 ∈ eg_T := ⟨(eg_t1 (i := 12) (by decide +kernel) rfl), (eg_t9 (i := 11) rfl rfl)⟩
theorem ws_mtX11_truthSum : Cond.instanceMethod mtX11_truthSum.1 ∈ eg_T ∧ Cond.selects mtX11_truthSum.1.cls mtX11_truthSum.1 mtX11_truthSum.1 ∈ eg_T := ⟨(eg_t9 (i := 10) (by decide +kernel) rfl), (eg_t0 (i := 116) (by decide +kernel))⟩
theorem wd_mtX11_truthSum : (mtX11_truthSum.1.cls ≠ "java/lang/invoke/MethodHandle" ∧ mtX11_truthSum.1.cls ≠ "java/lang/invoke/VarHandle" ∧ (parseMethodDescriptor mtX11_truthSum.1.desc).map (fun d => d.parameters.length) = some 1) ∧ mtX11_truthSum.2.2.1 ≤ 21 := by decide +kernel
theorem wi_mtX11_valueOf : Cond.initialized mtX11_valueOf.1.cls ∈ eg_T ∧ Cond.code mtX11_valueOf.1 mtX11_valueOf.2.1 mtX11_valueOf.2.2.1 mtX11_valueOf.2.2.2 ∈ eg_T := ⟨(eg_t1 (i := 12) (by decide +kernel) rfl), (eg_t8 (i := 61) rfl rfl)⟩
theorem ws_mtX11_valueOf : Cond.instanceMethod mtX11_valueOf.1 ∈ eg_T ∧ Cond.selects mtX11_valueOf.1.cls mtX11_valueOf.1 mtX11_valueOf.1 ∈ eg_T := ⟨(eg_t8 (i := 60) (by decide +kernel) rfl), (eg_t0 (i := 97) (by decide +kernel))⟩
theorem wd_mtX11_valueOf : (mtX11_valueOf.1.cls ≠ "java/lang/invoke/MethodHandle" ∧ mtX11_valueOf.1.cls ≠ "java/lang/invoke/VarHandle" ∧ (parseMethodDescriptor mtX11_valueOf.1.desc).map (fun d => d.parameters.length) = some 1) ∧ mtX11_valueOf.2.2.1 ≤ 21 := by decide +kernel
theorem wi_mtX11_waitedOf : Cond.initialized mtX11_waitedOf.1.cls ∈ eg_T ∧ Cond.code mtX11_waitedOf.1 mtX11_waitedOf.2.1 mtX11_waitedOf.2.2.1 mtX11_waitedOf.2.2.2 ∈ eg_T := ⟨(eg_t1 (i := 12) (by decide +kernel) rfl), (eg_t8 (i := 138) rfl rfl)⟩
theorem ws_mtX11_waitedOf : Cond.instanceMethod mtX11_waitedOf.1 ∈ eg_T ∧ Cond.selects mtX11_waitedOf.1.cls mtX11_waitedOf.1 mtX11_waitedOf.1 ∈ eg_T := ⟨(eg_t8 (i := 137) (by decide +kernel) rfl), (eg_t0 (i := 109) (by decide +kernel))⟩
theorem wd_mtX11_waitedOf : (mtX11_waitedOf.1.cls ≠ "java/lang/invoke/MethodHandle" ∧ mtX11_waitedOf.1.cls ≠ "java/lang/invoke/VarHandle" ∧ (parseMethodDescriptor mtX11_waitedOf.1.desc).map (fun d => d.parameters.length) = some 1) ∧ mtX11_waitedOf.2.2.1 ≤ 21 := by decide +kernel
theorem wi_mtX11_waitsFor : Cond.initialized mtX11_waitsFor.1.cls ∈ eg_T ∧ Cond.code mtX11_waitsFor.1 mtX11_waitsFor.2.1 mtX11_waitsFor.2.2.1 mtX11_waitsFor.2.2.2 ∈ eg_T := ⟨(eg_t1 (i := 12) (by decide +kernel) rfl), (eg_t7 (i := 186) rfl rfl)⟩
theorem ws_mtX11_waitsFor : Cond.instanceMethod mtX11_waitsFor.1 ∈ eg_T ∧ Cond.selects mtX11_waitsFor.1.cls mtX11_waitsFor.1 mtX11_waitsFor.1 ∈ eg_T := ⟨(eg_t7 (i := 185) (by decide +kernel) rfl), (eg_t0 (i := 76) (by decide +kernel))⟩
theorem wd_mtX11_waitsFor : (mtX11_waitsFor.1.cls ≠ "java/lang/invoke/MethodHandle" ∧ mtX11_waitsFor.1.cls ≠ "java/lang/invoke/VarHandle" ∧ (parseMethodDescriptor mtX11_waitsFor.1.desc).map (fun d => d.parameters.length) = some 1) ∧ mtX11_waitsFor.2.2.1 ≤ 21 := by decide +kernel
theorem wi_mtX11_wantsOf : Cond.initialized mtX11_wantsOf.1.cls ∈ eg_T ∧ Cond.code mtX11_wantsOf.1 mtX11_wantsOf.2.1 mtX11_wantsOf.2.2.1 mtX11_wantsOf.2.2.2 ∈ eg_T := ⟨(eg_t1 (i := 12) (by decide +kernel) rfl), (eg_t8 (i := 45) rfl rfl)⟩
theorem ws_mtX11_wantsOf : Cond.instanceMethod mtX11_wantsOf.1 ∈ eg_T ∧ Cond.selects mtX11_wantsOf.1.cls mtX11_wantsOf.1 mtX11_wantsOf.1 ∈ eg_T := ⟨(eg_t8 (i := 44) (by decide +kernel) rfl), (eg_t0 (i := 93) (by decide +kernel))⟩
theorem wd_mtX11_wantsOf : (mtX11_wantsOf.1.cls ≠ "java/lang/invoke/MethodHandle" ∧ mtX11_wantsOf.1.cls ≠ "java/lang/invoke/VarHandle" ∧ (parseMethodDescriptor mtX11_wantsOf.1.desc).map (fun d => d.parameters.length) = some 1) ∧ mtX11_wantsOf.2.2.1 ≤ 21 := by decide +kernel
theorem wi_mtX11_wordAt : Cond.initialized mtX11_wordAt.1.cls ∈ eg_T ∧ Cond.code mtX11_wordAt.1 mtX11_wordAt.2.1 mtX11_wordAt.2.2.1 mtX11_wordAt.2.2.2 ∈ eg_T := ⟨(eg_t1 (i := 12) (by decide +kernel) rfl), (eg_t7 (i := 112) rfl rfl)⟩
theorem ws_mtX11_wordAt : Cond.instanceMethod mtX11_wordAt.1 ∈ eg_T ∧ Cond.selects mtX11_wordAt.1.cls mtX11_wordAt.1 mtX11_wordAt.1 ∈ eg_T := ⟨(eg_t7 (i := 111) (by decide +kernel) rfl), (eg_t0 (i := 59) (by decide +kernel))⟩
theorem wd_mtX11_wordAt : (mtX11_wordAt.1.cls ≠ "java/lang/invoke/MethodHandle" ∧ mtX11_wordAt.1.cls ≠ "java/lang/invoke/VarHandle" ∧ (parseMethodDescriptor mtX11_wordAt.1.desc).map (fun d => d.parameters.length) = some 2) ∧ mtX11_wordAt.2.2.1 ≤ 21 := by decide +kernel
theorem wi_mtX11_wrong : Cond.initialized mtX11_wrong.1.cls ∈ eg_T ∧ Cond.code mtX11_wrong.1 mtX11_wrong.2.1 mtX11_wrong.2.2.1 mtX11_wrong.2.2.2 ∈ eg_T := ⟨(eg_t1 (i := 12) (by decide +kernel) rfl), (eg_t7 (i := 132) rfl rfl)⟩
theorem ws_mtX11_wrong : Cond.instanceMethod mtX11_wrong.1 ∈ eg_T ∧ Cond.selects mtX11_wrong.1.cls mtX11_wrong.1 mtX11_wrong.1 ∈ eg_T := ⟨(eg_t7 (i := 131) (by decide +kernel) rfl), (eg_t0 (i := 64) (by decide +kernel))⟩
theorem wd_mtX11_wrong : (mtX11_wrong.1.cls ≠ "java/lang/invoke/MethodHandle" ∧ mtX11_wrong.1.cls ≠ "java/lang/invoke/VarHandle" ∧ (parseMethodDescriptor mtX11_wrong.1.desc).map (fun d => d.parameters.length) = some 1) ∧ mtX11_wrong.2.2.1 ≤ 21 := by decide +kernel
theorem ml_10_56 : eg_MV RX10 56 mtX5_clear 0 := ⟨⟨(eg_t2 (i := 102) (by decide +kernel) rfl), ws_mtX5_clear.1, ws_mtX5_clear.2, wi_mtX5_clear⟩, wd_mtX5_clear⟩
theorem ml_10_59 : eg_MV RX10 59 mtX8_clear 0 := ⟨⟨(eg_t2 (i := 110) (by decide +kernel) rfl), ws_mtX8_clear.1, ws_mtX8_clear.2, wi_mtX8_clear⟩, wd_mtX8_clear⟩
theorem ml_10_82 : eg_MV RX10 82 mtX10_feedNumber 1 := ⟨⟨(eg_t3 (i := 74) (by decide +kernel) rfl), ws_mtX10_feedNumber.1, ws_mtX10_feedNumber.2, wi_mtX10_feedNumber⟩, wd_mtX10_feedNumber⟩
theorem ml_10_86 : eg_MV RX10 86 mtX6_begin 2 := ⟨⟨(eg_t3 (i := 82) (by decide +kernel) rfl), ws_mtX6_begin.1, ws_mtX6_begin.2, wi_mtX6_begin⟩, wd_mtX6_begin⟩
theorem ml_10_90 : eg_MV RX10 90 mtX6_atEnd 0 := ⟨⟨(eg_t3 (i := 160) (by decide +kernel) rfl), ws_mtX6_atEnd.1, ws_mtX6_atEnd.2, wi_mtX6_atEnd⟩, wd_mtX6_atEnd⟩
theorem ml_10_94 : eg_MV RX10 94 mtX6_readLine 0 := ⟨⟨(eg_t3 (i := 164) (by decide +kernel) rfl), ws_mtX6_readLine.1, ws_mtX6_readLine.2, wi_mtX6_readLine⟩, wd_mtX6_readLine⟩
theorem ml_10_97 : eg_MV RX10 97 mtX6_endLine 0 := ⟨⟨(eg_t4 (i := 28) (by decide +kernel) rfl), ws_mtX6_endLine.1, ws_mtX6_endLine.2, wi_mtX6_endLine⟩, wd_mtX6_endLine⟩
theorem ml_10_103 : eg_MV RX10 103 mtX10_orderByNumbers 0 := ⟨⟨(eg_t4 (i := 32) (by decide +kernel) rfl), ws_mtX10_orderByNumbers.1, ws_mtX10_orderByNumbers.2, wi_mtX10_orderByNumbers⟩, wd_mtX10_orderByNumbers⟩
theorem ml_10_106 : eg_MV RX10 106 mtX7_begin 2 := ⟨⟨(eg_t4 (i := 36) (by decide +kernel) rfl), ws_mtX7_begin.1, ws_mtX7_begin.2, wi_mtX7_begin⟩, wd_mtX7_begin⟩
theorem ml_10_122 : eg_MV RX10 122 mtX5_stationOf 1 := ⟨⟨(eg_t4 (i := 64) (by decide +kernel) rfl), ws_mtX5_stationOf.1, ws_mtX5_stationOf.2, wi_mtX5_stationOf⟩, wd_mtX5_stationOf⟩
theorem ml_10_126 : eg_MV RX10 126 mtX5_guestOf 1 := ⟨⟨(eg_t4 (i := 65) (by decide +kernel) rfl), ws_mtX5_guestOf.1, ws_mtX5_guestOf.2, wi_mtX5_guestOf⟩, wd_mtX5_guestOf⟩
theorem ml_10_129 : eg_MV RX10 129 mtX5_mayOf 1 := ⟨⟨(eg_t4 (i := 66) (by decide +kernel) rfl), ws_mtX5_mayOf.1, ws_mtX5_mayOf.2, wi_mtX5_mayOf⟩, wd_mtX5_mayOf⟩
theorem ml_10_132 : eg_MV RX10 132 mtX5_hasGuest 1 := ⟨⟨(eg_t4 (i := 232) (by decide +kernel) rfl), ws_mtX5_hasGuest.1, ws_mtX5_hasGuest.2, wi_mtX5_hasGuest⟩, wd_mtX5_hasGuest⟩
theorem ml_10_158 : eg_MV RX10 158 mtX2_wantsLeft 0 := ⟨⟨(eg_t6 (i := 15) (by decide +kernel) rfl), ws_mtX2_wantsLeft.1, ws_mtX2_wantsLeft.2, wi_mtX2_wantsLeft⟩, wd_mtX2_wantsLeft⟩
theorem ml_10_188 : eg_MV RX10 188 mtX5_hasStation 1 := ⟨⟨(eg_t4 (i := 71) (by decide +kernel) rfl), ws_mtX5_hasStation.1, ws_mtX5_hasStation.2, wi_mtX5_hasStation⟩, wd_mtX5_hasStation⟩
theorem ml_10_207 : eg_MV RX10 207 mtX5_hasPan 1 := ⟨⟨(eg_t4 (i := 75) (by decide +kernel) rfl), ws_mtX5_hasPan.1, ws_mtX5_hasPan.2, wi_mtX5_hasPan⟩, wd_mtX5_hasPan⟩
theorem ml_10_231 : eg_MV RX10 231 mtX7_placeOf 1 := ⟨⟨(eg_t4 (i := 79) (by decide +kernel) rfl), ws_mtX7_placeOf.1, ws_mtX7_placeOf.2, wi_mtX7_placeOf⟩, wd_mtX7_placeOf⟩
theorem ml_10_246 : eg_MV RX10 246 mtX7_go 1 := ⟨⟨(eg_t4 (i := 95) (by decide +kernel) rfl), ws_mtX7_go.1, ws_mtX7_go.2, wi_mtX7_go⟩, wd_mtX7_go⟩
theorem ml_10_249 : eg_MV RX10 249 mtX10_doByHand 3 := ⟨⟨(eg_t4 (i := 195) (by decide +kernel) rfl), ws_mtX10_doByHand.1, ws_mtX10_doByHand.2, wi_mtX10_doByHand⟩, wd_mtX10_doByHand⟩
theorem ml_10_253 : eg_MV RX10 253 mtX7_copyFrom 1 := ⟨⟨(eg_t4 (i := 199) (by decide +kernel) rfl), ws_mtX7_copyFrom.1, ws_mtX7_copyFrom.2, wi_mtX7_copyFrom⟩, wd_mtX7_copyFrom⟩
theorem ml_10_257 : eg_MV RX10 257 mtX10_performAgain 2 := ⟨⟨(eg_t4 (i := 211) (by decide +kernel) rfl), ws_mtX10_performAgain.1, ws_mtX10_performAgain.2, wi_mtX10_performAgain⟩, wd_mtX10_performAgain⟩
theorem ml_10_261 : eg_CL RX10 261 := ⟨(eg_t4 (i := 223) (by decide +kernel) rfl), (eg_t4 (i := 42) (by decide +kernel) rfl), (eg_t4 (i := 41) (by decide +kernel) rfl), (eg_t1 (i := 17) (by decide +kernel) rfl)⟩
theorem ml_10_267 : eg_MV RX10 267 mtX7_perform 3 := ⟨⟨(eg_t4 (i := 215) (by decide +kernel) rfl), ws_mtX7_perform.1, ws_mtX7_perform.2, wi_mtX7_perform⟩, wd_mtX7_perform⟩
theorem ml_10_270 : eg_MS RX10 270 mtX10_isLength 1 := ⟨⟨(eg_t5 (i := 4) (by decide +kernel) rfl), ws_mtX10_isLength, wi_mtX10_isLength⟩, wd_mtX10_isLength⟩
theorem ml_10_273 : eg_MV RX10 273 mtX10_waitedBy 2 := ⟨⟨(eg_t5 (i := 7) (by decide +kernel) rfl), ws_mtX10_waitedBy.1, ws_mtX10_waitedBy.2, wi_mtX10_waitedBy⟩, wd_mtX10_waitedBy⟩
theorem ml_10_277 : eg_MV RX10 277 mtX7_waitedByAll 0 := ⟨⟨(eg_t5 (i := 11) (by decide +kernel) rfl), ws_mtX7_waitedByAll.1, ws_mtX7_waitedByAll.2, wi_mtX7_waitedByAll⟩, wd_mtX7_waitedByAll⟩
theorem ml_10_283 : eg_MV RX10 283 mtX5_copyFrom 1 := ⟨⟨(eg_t5 (i := 20) (by decide +kernel) rfl), ws_mtX5_copyFrom.1, ws_mtX5_copyFrom.2, wi_mtX5_copyFrom⟩, wd_mtX5_copyFrom⟩
theorem ml_10_298 : eg_MV RX10 298 mtX10_nextOrder 1 := ⟨⟨(eg_t5 (i := 48) (by decide +kernel) rfl), ws_mtX10_nextOrder.1, ws_mtX10_nextOrder.2, wi_mtX10_nextOrder⟩, wd_mtX10_nextOrder⟩
theorem ml_10_301 : eg_MV RX10 301 mtX10_swapInOrder 2 := ⟨⟨(eg_t5 (i := 52) (by decide +kernel) rfl), ws_mtX10_swapInOrder.1, ws_mtX10_swapInOrder.2, wi_mtX10_swapInOrder⟩, wd_mtX10_swapInOrder⟩
theorem ml_10_305 : eg_MV RX10 305 mtX10_takenAt 3 := ⟨⟨(eg_t5 (i := 60) (by decide +kernel) rfl), ws_mtX10_takenAt.1, ws_mtX10_takenAt.2, wi_mtX10_takenAt⟩, wd_mtX10_takenAt⟩
theorem ml_10_314 : eg_MV RX10 314 mtX7_takenInAll 0 := ⟨⟨(eg_t5 (i := 68) (by decide +kernel) rfl), ws_mtX7_takenInAll.1, ws_mtX7_takenInAll.2, wi_mtX7_takenInAll⟩, wd_mtX7_takenInAll⟩
theorem ml_10_317 : eg_MV RX10 317 mtX7_leftInAll 0 := ⟨⟨(eg_t5 (i := 72) (by decide +kernel) rfl), ws_mtX7_leftInAll.1, ws_mtX7_leftInAll.2, wi_mtX7_leftInAll⟩, wd_mtX7_leftInAll⟩
theorem ml_10_320 : eg_MV RX10 320 mtX7_cameAgain 0 := ⟨⟨(eg_t5 (i := 76) (by decide +kernel) rfl), ws_mtX7_cameAgain.1, ws_mtX7_cameAgain.2, wi_mtX7_cameAgain⟩, wd_mtX7_cameAgain⟩
theorem ml_10_326 : eg_MV RX10 326 mtX10_canWeigh 5 := ⟨⟨(eg_t5 (i := 88) (by decide +kernel) rfl), ws_mtX10_canWeigh.1, ws_mtX10_canWeigh.2, wi_mtX10_canWeigh⟩, wd_mtX10_canWeigh⟩
theorem ml_10_330 : eg_MV RX10 330 mtX10_cheapest 6 := ⟨⟨(eg_t5 (i := 92) (by decide +kernel) rfl), ws_mtX10_cheapest.1, ws_mtX10_cheapest.2, wi_mtX10_cheapest⟩, wd_mtX10_cheapest⟩
theorem ml_10_338 : eg_MV RX10 338 mtX0_copyFrom 1 := ⟨⟨(eg_t5 (i := 104) (by decide +kernel) rfl), ws_mtX0_copyFrom.1, ws_mtX0_copyFrom.2, wi_mtX0_copyFrom⟩, wd_mtX0_copyFrom⟩
theorem ml_10_349 : eg_MS RX10 349 mtX10_isNamed 1 := ⟨⟨(eg_t5 (i := 117) (by decide +kernel) rfl), ws_mtX10_isNamed, wi_mtX10_isNamed⟩, wd_mtX10_isNamed⟩
theorem ml_10_358 : eg_MV RX10 358 mtX3_setName 2 := ⟨⟨(eg_t5 (i := 121) (by decide +kernel) rfl), ws_mtX3_setName.1, ws_mtX3_setName.2, wi_mtX3_setName⟩, wd_mtX3_setName⟩
theorem ml_10_366 : eg_MV RX10 366 mtX3_value 1 := ⟨⟨(eg_t5 (i := 122) (by decide +kernel) rfl), ws_mtX3_value.1, ws_mtX3_value.2, wi_mtX3_value⟩, wd_mtX3_value⟩
theorem ml_10_370 : eg_MV RX10 370 mtX8_add 4 := ⟨⟨(eg_t5 (i := 127) (by decide +kernel) rfl), ws_mtX8_add.1, ws_mtX8_add.2, wi_mtX8_add⟩, wd_mtX8_add⟩
theorem ml_10_378 : eg_MV RX10 378 mtX8_markHolding 0 := ⟨⟨(eg_t5 (i := 143) (by decide +kernel) rfl), ws_mtX8_markHolding.1, ws_mtX8_markHolding.2, wi_mtX8_markHolding⟩, wd_mtX8_markHolding⟩
theorem ml_10_390 : eg_MV RX10 390 mtX10_fitsSpare 0 := ⟨⟨(eg_t5 (i := 151) (by decide +kernel) rfl), ws_mtX10_fitsSpare.1, ws_mtX10_fitsSpare.2, wi_mtX10_fitsSpare⟩, wd_mtX10_fitsSpare⟩
theorem ml_10_393 : eg_MV RX10 393 mtX8_nextSecond 1 := ⟨⟨(eg_t5 (i := 155) (by decide +kernel) rfl), ws_mtX8_nextSecond.1, ws_mtX8_nextSecond.2, wi_mtX8_nextSecond⟩, wd_mtX8_nextSecond⟩
theorem ml_10_396 : eg_MV RX10 396 mtX8_agrees 2 := ⟨⟨(eg_t5 (i := 159) (by decide +kernel) rfl), ws_mtX8_agrees.1, ws_mtX8_agrees.2, wi_mtX8_agrees⟩, wd_mtX8_agrees⟩
theorem ml_10_401 : eg_MV RX10 401 mtX8_knownCounts 0 := ⟨⟨(eg_t5 (i := 175) (by decide +kernel) rfl), ws_mtX8_knownCounts.1, ws_mtX8_knownCounts.2, wi_mtX8_knownCounts⟩, wd_mtX8_knownCounts⟩
theorem ml_10_404 : eg_MV RX10 404 mtX7_portionsInAll 0 := ⟨⟨(eg_t5 (i := 176) (by decide +kernel) rfl), ws_mtX7_portionsInAll.1, ws_mtX7_portionsInAll.2, wi_mtX7_portionsInAll⟩, wd_mtX7_portionsInAll⟩
theorem ml_0_25 : eg_CL RX0 25 := ⟨(eg_t5 (i := 32) (by decide +kernel) rfl), (eg_t4 (i := 42) (by decide +kernel) rfl), (eg_t4 (i := 41) (by decide +kernel) rfl), (eg_t1 (i := 17) (by decide +kernel) rfl)⟩
theorem ml_2_22 : eg_CL RX2 22 := ⟨(eg_t4 (i := 51) (by decide +kernel) rfl), (eg_t4 (i := 42) (by decide +kernel) rfl), (eg_t4 (i := 41) (by decide +kernel) rfl), (eg_t1 (i := 17) (by decide +kernel) rfl)⟩
theorem ml_2_49 : eg_MV RX2 49 mtX2_clearPlate 1 := ⟨⟨(eg_t4 (i := 52) (by decide +kernel) rfl), ws_mtX2_clearPlate.1, ws_mtX2_clearPlate.2, wi_mtX2_clearPlate⟩, wd_mtX2_clearPlate⟩
theorem ml_3_35 : eg_CL RX3 35 := ⟨(eg_t5 (i := 38) (by decide +kernel) rfl), (eg_t4 (i := 42) (by decide +kernel) rfl), (eg_t4 (i := 41) (by decide +kernel) rfl), (eg_t1 (i := 17) (by decide +kernel) rfl)⟩
theorem ml_3_43 : eg_MS RX3 43 mtX3_combined 3 := ⟨⟨(eg_t4 (i := 146) (by decide +kernel) rfl), ws_mtX3_combined, wi_mtX3_combined⟩, wd_mtX3_combined⟩
theorem ml_5_65 : eg_MV RX5 65 mtX3_clear 0 := ⟨⟨(eg_t2 (i := 106) (by decide +kernel) rfl), ws_mtX3_clear.1, ws_mtX3_clear.2, wi_mtX3_clear⟩, wd_mtX3_clear⟩
theorem ml_5_68 : eg_MV RX5 68 mtX1_copyFrom 1 := ⟨⟨(eg_t5 (i := 24) (by decide +kernel) rfl), ws_mtX1_copyFrom.1, ws_mtX1_copyFrom.2, wi_mtX1_copyFrom⟩, wd_mtX1_copyFrom⟩
theorem ml_5_72 : eg_MV RX5 72 mtX0_copyFrom 1 := ⟨⟨(eg_t5 (i := 28) (by decide +kernel) rfl), ws_mtX0_copyFrom.1, ws_mtX0_copyFrom.2, wi_mtX0_copyFrom⟩, wd_mtX0_copyFrom⟩
theorem ml_5_75 : eg_CL RX5 75 := ⟨(eg_t5 (i := 33) (by decide +kernel) rfl), (eg_t4 (i := 42) (by decide +kernel) rfl), (eg_t4 (i := 41) (by decide +kernel) rfl), (eg_t1 (i := 17) (by decide +kernel) rfl)⟩
theorem ml_5_81 : eg_MV RX5 81 mtX3_copyFrom 1 := ⟨⟨(eg_t5 (i := 34) (by decide +kernel) rfl), ws_mtX3_copyFrom.1, ws_mtX3_copyFrom.2, wi_mtX3_copyFrom⟩, wd_mtX3_copyFrom⟩
theorem ml_6_27 : eg_MV RX6 27 mtX5_clear 0 := ⟨⟨(eg_t3 (i := 86) (by decide +kernel) rfl), ws_mtX5_clear.1, ws_mtX5_clear.2, wi_mtX5_clear⟩, wd_mtX5_clear⟩
theorem ml_6_45 : eg_MV RX6 45 mtX9_begin 1 := ⟨⟨(eg_t3 (i := 87) (by decide +kernel) rfl), ws_mtX9_begin.1, ws_mtX9_begin.2, wi_mtX9_begin⟩, wd_mtX9_begin⟩
theorem ml_6_57 : eg_MV RX6 57 mtX6_refuse 1 := ⟨⟨(eg_t3 (i := 172) (by decide +kernel) rfl), ws_mtX6_refuse.1, ws_mtX6_refuse.2, wi_mtX6_refuse⟩, wd_mtX6_refuse⟩
theorem ml_6_61 : eg_MV RX6 61 mtX9_advance 0 := ⟨⟨(eg_t3 (i := 180) (by decide +kernel) rfl), ws_mtX9_advance.1, ws_mtX9_advance.2, wi_mtX9_advance⟩, wd_mtX9_advance⟩
theorem ml_6_64 : eg_MV RX6 64 mtX6_readStation 0 := ⟨⟨(eg_t3 (i := 168) (by decide +kernel) rfl), ws_mtX6_readStation.1, ws_mtX6_readStation.2, wi_mtX6_readStation⟩, wd_mtX6_readStation⟩
theorem ml_6_68 : eg_MV RX6 68 mtX6_readGuest 0 := ⟨⟨(eg_t3 (i := 201) (by decide +kernel) rfl), ws_mtX6_readGuest.1, ws_mtX6_readGuest.2, wi_mtX6_readGuest⟩, wd_mtX6_readGuest⟩
theorem ml_6_71 : eg_MV RX6 71 mtX6_readPass 0 := ⟨⟨(eg_t3 (i := 213) (by decide +kernel) rfl), ws_mtX6_readPass.1, ws_mtX6_readPass.2, wi_mtX6_readPass⟩, wd_mtX6_readPass⟩
theorem ml_6_74 : eg_MV RX6 74 mtX6_readAgain 0 := ⟨⟨(eg_t3 (i := 217) (by decide +kernel) rfl), ws_mtX6_readAgain.1, ws_mtX6_readAgain.2, wi_mtX6_readAgain⟩, wd_mtX6_readAgain⟩
theorem ml_6_77 : eg_MV RX6 77 mtX6_readClose 0 := ⟨⟨(eg_t3 (i := 221) (by decide +kernel) rfl), ws_mtX6_readClose.1, ws_mtX6_readClose.2, wi_mtX6_readClose⟩, wd_mtX6_readClose⟩
theorem ml_6_80 : eg_MV RX6 80 mtX6_readLaw 0 := ⟨⟨(eg_t3 (i := 225) (by decide +kernel) rfl), ws_mtX6_readLaw.1, ws_mtX6_readLaw.2, wi_mtX6_readLaw⟩, wd_mtX6_readLaw⟩
theorem ml_6_83 : eg_MV RX6 83 mtX6_readMay 0 := ⟨⟨(eg_t4 (i := 24) (by decide +kernel) rfl), ws_mtX6_readMay.1, ws_mtX6_readMay.2, wi_mtX6_readMay⟩, wd_mtX6_readMay⟩
theorem ml_6_96 : eg_MV RX6 96 mtX5_stationOf 1 := ⟨⟨(eg_t3 (i := 185) (by decide +kernel) rfl), ws_mtX5_stationOf.1, ws_mtX5_stationOf.2, wi_mtX5_stationOf⟩, wd_mtX5_stationOf⟩
theorem ml_6_100 : eg_MV RX6 100 mtX5_guestOf 1 := ⟨⟨(eg_t3 (i := 189) (by decide +kernel) rfl), ws_mtX5_guestOf.1, ws_mtX5_guestOf.2, wi_mtX5_guestOf⟩, wd_mtX5_guestOf⟩
theorem ml_6_103 : eg_MV RX6 103 mtX5_mayOf 1 := ⟨⟨(eg_t3 (i := 193) (by decide +kernel) rfl), ws_mtX5_mayOf.1, ws_mtX5_mayOf.2, wi_mtX5_mayOf⟩, wd_mtX5_mayOf⟩
theorem ml_6_113 : eg_MV RX6 113 mtX1_clear 0 := ⟨⟨(eg_t3 (i := 176) (by decide +kernel) rfl), ws_mtX1_clear.1, ws_mtX1_clear.2, wi_mtX1_clear⟩, wd_mtX1_clear⟩
theorem ml_6_116 : eg_MV RX6 116 mtX6_readNewName 1 := ⟨⟨(eg_t3 (i := 181) (by decide +kernel) rfl), ws_mtX6_readNewName.1, ws_mtX6_readNewName.2, wi_mtX6_readNewName⟩, wd_mtX6_readNewName⟩
theorem ml_6_122 : eg_MV RX6 122 mtX6_readNumber 2 := ⟨⟨(eg_t3 (i := 197) (by decide +kernel) rfl), ws_mtX6_readNumber.1, ws_mtX6_readNumber.2, wi_mtX6_readNumber⟩, wd_mtX6_readNumber⟩
theorem ml_6_151 : eg_MV RX6 151 mtX0_clear 0 := ⟨⟨(eg_t3 (i := 205) (by decide +kernel) rfl), ws_mtX0_clear.1, ws_mtX0_clear.2, wi_mtX0_clear⟩, wd_mtX0_clear⟩
theorem ml_6_161 : eg_MV RX6 161 mtX6_wantedStation 1 := ⟨⟨(eg_t3 (i := 209) (by decide +kernel) rfl), ws_mtX6_wantedStation.1, ws_mtX6_wantedStation.2, wi_mtX6_wantedStation⟩, wd_mtX6_wantedStation⟩
theorem ml_6_187 : eg_MV RX6 187 mtX6_readExpression 0 := ⟨⟨(eg_t3 (i := 229) (by decide +kernel) rfl), ws_mtX6_readExpression.1, ws_mtX6_readExpression.2, wi_mtX6_readExpression⟩, wd_mtX6_readExpression⟩
theorem ml_6_190 : eg_MV RX6 190 mtX3_addLaw 1 := ⟨⟨(eg_t4 (i := 20) (by decide +kernel) rfl), ws_mtX3_addLaw.1, ws_mtX3_addLaw.2, wi_mtX3_addLaw⟩, wd_mtX3_addLaw⟩
theorem ml_6_223 : eg_MV RX6 223 mtX6_releaseSigns 1 := ⟨⟨(eg_t3 (i := 233) (by decide +kernel) rfl), ws_mtX6_releaseSigns.1, ws_mtX6_releaseSigns.2, wi_mtX6_releaseSigns⟩, wd_mtX6_releaseSigns⟩
theorem ml_6_226 : eg_MV RX6 226 mtX6_readValue 0 := ⟨⟨(eg_t4 (i := 4) (by decide +kernel) rfl), ws_mtX6_readValue.1, ws_mtX6_readValue.2, wi_mtX6_readValue⟩, wd_mtX6_readValue⟩
theorem ml_6_229 : eg_MV RX6 229 mtX6_readBehindValue 0 := ⟨⟨(eg_t4 (i := 16) (by decide +kernel) rfl), ws_mtX6_readBehindValue.1, ws_mtX6_readBehindValue.2, wi_mtX6_readBehindValue⟩, wd_mtX6_readBehindValue⟩
theorem ml_6_232 : eg_MV RX6 232 mtX6_holdSign 1 := ⟨⟨(eg_t4 (i := 8) (by decide +kernel) rfl), ws_mtX6_holdSign.1, ws_mtX6_holdSign.2, wi_mtX6_holdSign⟩, wd_mtX6_holdSign⟩
theorem ml_6_235 : eg_MV RX6 235 mtX6_countKnot 0 := ⟨⟨(eg_t4 (i := 12) (by decide +kernel) rfl), ws_mtX6_countKnot.1, ws_mtX6_countKnot.2, wi_mtX6_countKnot⟩, wd_mtX6_countKnot⟩
theorem ml_6_238 : eg_MV RX6 238 mtX3_addKnot 1 := ⟨⟨(eg_t4 (i := 0) (by decide +kernel) rfl), ws_mtX3_addKnot.1, ws_mtX3_addKnot.2, wi_mtX3_addKnot⟩, wd_mtX3_addKnot⟩
theorem ml_6_241 : eg_MS RX6 241 mtX6_rankOf 1 := ⟨⟨(eg_t3 (i := 237) (by decide +kernel) rfl), ws_mtX6_rankOf, wi_mtX6_rankOf⟩, wd_mtX6_rankOf⟩
theorem ml_7_43 : eg_CL RX7 43 := ⟨(eg_t4 (i := 40) (by decide +kernel) rfl), (eg_t4 (i := 42) (by decide +kernel) rfl), (eg_t4 (i := 41) (by decide +kernel) rfl), (eg_t1 (i := 17) (by decide +kernel) rfl)⟩
theorem ml_7_58 : eg_MV RX7 58 mtX4_begin 1 := ⟨⟨(eg_t4 (i := 43) (by decide +kernel) rfl), ws_mtX4_begin.1, ws_mtX4_begin.2, wi_mtX4_begin⟩, wd_mtX4_begin⟩
theorem ml_7_68 : eg_MV RX7 68 mtX2_begin 1 := ⟨⟨(eg_t4 (i := 47) (by decide +kernel) rfl), ws_mtX2_begin.1, ws_mtX2_begin.2, wi_mtX2_begin⟩, wd_mtX2_begin⟩
theorem ml_7_71 : eg_MV RX7 71 mtX4_copyFrom 1 := ⟨⟨(eg_t4 (i := 203) (by decide +kernel) rfl), ws_mtX4_copyFrom.1, ws_mtX4_copyFrom.2, wi_mtX4_copyFrom⟩, wd_mtX4_copyFrom⟩
theorem ml_7_75 : eg_MV RX7 75 mtX2_copyFrom 1 := ⟨⟨(eg_t4 (i := 207) (by decide +kernel) rfl), ws_mtX2_copyFrom.1, ws_mtX2_copyFrom.2, wi_mtX2_copyFrom⟩, wd_mtX2_copyFrom⟩
theorem ml_7_82 : eg_MV RX7 82 mtX7_fillPans 0 := ⟨⟨(eg_t4 (i := 99) (by decide +kernel) rfl), ws_mtX7_fillPans.1, ws_mtX7_fillPans.2, wi_mtX7_fillPans⟩, wd_mtX7_fillPans⟩
theorem ml_7_85 : eg_MV RX7 85 mtX7_admitGuests 0 := ⟨⟨(eg_t4 (i := 107) (by decide +kernel) rfl), ws_mtX7_admitGuests.1, ws_mtX7_admitGuests.2, wi_mtX7_admitGuests⟩, wd_mtX7_admitGuests⟩
theorem ml_7_88 : eg_MV RX7 88 mtX7_walkAll 0 := ⟨⟨(eg_t4 (i := 112) (by decide +kernel) rfl), ws_mtX7_walkAll.1, ws_mtX7_walkAll.2, wi_mtX7_walkAll⟩, wd_mtX7_walkAll⟩
theorem ml_7_91 : eg_MV RX7 91 mtX7_takeOn 0 := ⟨⟨(eg_t4 (i := 172) (by decide +kernel) rfl), ws_mtX7_takeOn.1, ws_mtX7_takeOn.2, wi_mtX7_takeOn⟩, wd_mtX7_takeOn⟩
theorem ml_7_94 : eg_MV RX7 94 mtX7_orderPans 0 := ⟨⟨(eg_t4 (i := 176) (by decide +kernel) rfl), ws_mtX7_orderPans.1, ws_mtX7_orderPans.2, wi_mtX7_orderPans⟩, wd_mtX7_orderPans⟩
theorem ml_7_97 : eg_MV RX7 97 mtX7_calmSeconds 1 := ⟨⟨(eg_t4 (i := 180) (by decide +kernel) rfl), ws_mtX7_calmSeconds.1, ws_mtX7_calmSeconds.2, wi_mtX7_calmSeconds⟩, wd_mtX7_calmSeconds⟩
theorem ml_7_101 : eg_MV RX7 101 mtX7_repeatCalm 1 := ⟨⟨(eg_t4 (i := 187) (by decide +kernel) rfl), ws_mtX7_repeatCalm.1, ws_mtX7_repeatCalm.2, wi_mtX7_repeatCalm⟩, wd_mtX7_repeatCalm⟩
theorem ml_7_108 : eg_ML RX7 108 := ⟨(eg_t4 (i := 184) (by decide +kernel) rfl), (eg_t4 (i := 185) (by decide +kernel) rfl), (eg_t1 (i := 23) (by decide +kernel) rfl), (eg_t4 (i := 186) rfl rfl)⟩
theorem ml_7_143 : eg_MV RX7 143 mtX4_addPan 1 := ⟨⟨(eg_t4 (i := 103) (by decide +kernel) rfl), ws_mtX4_addPan.1, ws_mtX4_addPan.2, wi_mtX4_addPan⟩, wd_mtX4_addPan⟩
theorem ml_7_149 : eg_MV RX7 149 mtX2_clearPlate 1 := ⟨⟨(eg_t4 (i := 111) (by decide +kernel) rfl), ws_mtX2_clearPlate.1, ws_mtX2_clearPlate.2, wi_mtX2_clearPlate⟩, wd_mtX2_clearPlate⟩
theorem ml_7_152 : eg_MV RX7 152 mtX7_walk 1 := ⟨⟨(eg_t4 (i := 116) (by decide +kernel) rfl), ws_mtX7_walk.1, ws_mtX7_walk.2, wi_mtX7_walk⟩, wd_mtX7_walk⟩
theorem ml_7_156 : eg_MV RX7 156 mtX7_nextPlace 1 := ⟨⟨(eg_t4 (i := 120) (by decide +kernel) rfl), ws_mtX7_nextPlace.1, ws_mtX7_nextPlace.2, wi_mtX7_nextPlace⟩, wd_mtX7_nextPlace⟩
theorem ml_7_166 : eg_MV RX7 166 mtX7_leaveLine 1 := ⟨⟨(eg_t4 (i := 124) (by decide +kernel) rfl), ws_mtX7_leaveLine.1, ws_mtX7_leaveLine.2, wi_mtX7_leaveLine⟩, wd_mtX7_leaveLine⟩
theorem ml_7_172 : eg_MV RX7 172 mtX5_hasPan 1 := ⟨⟨(eg_t4 (i := 132) (by decide +kernel) rfl), ws_mtX5_hasPan.1, ws_mtX5_hasPan.2, wi_mtX5_hasPan⟩, wd_mtX5_hasPan⟩
theorem ml_7_175 : eg_MV RX7 175 mtX7_takersAt 1 := ⟨⟨(eg_t4 (i := 156) (by decide +kernel) rfl), ws_mtX7_takersAt.1, ws_mtX7_takersAt.2, wi_mtX7_takersAt⟩, wd_mtX7_takersAt⟩
theorem ml_7_181 : eg_MV RX7 181 mtX7_take 2 := ⟨⟨(eg_t4 (i := 160) (by decide +kernel) rfl), ws_mtX7_take.1, ws_mtX7_take.2, wi_mtX7_take⟩, wd_mtX7_take⟩
theorem ml_7_185 : eg_MV RX7 185 mtX7_leavesOut 2 := ⟨⟨(eg_t4 (i := 164) (by decide +kernel) rfl), ws_mtX7_leavesOut.1, ws_mtX7_leavesOut.2, wi_mtX7_leavesOut⟩, wd_mtX7_leavesOut⟩
theorem ml_7_189 : eg_MV RX7 189 mtX2_goWithout 1 := ⟨⟨(eg_t4 (i := 168) (by decide +kernel) rfl), ws_mtX2_goWithout.1, ws_mtX2_goWithout.2, wi_mtX2_goWithout⟩, wd_mtX2_goWithout⟩
theorem ml_7_201 : eg_MV RX7 201 mtX7_describe 2 := ⟨⟨(eg_t4 (i := 128) (by decide +kernel) rfl), ws_mtX7_describe.1, ws_mtX7_describe.2, wi_mtX7_describe⟩, wd_mtX7_describe⟩
theorem ml_7_208 : eg_MV RX7 208 mtX3_value 1 := ⟨⟨(eg_t4 (i := 141) (by decide +kernel) rfl), ws_mtX3_value.1, ws_mtX3_value.2, wi_mtX3_value⟩, wd_mtX3_value⟩
theorem ml_7_239 : eg_MV RX7 239 mtX2_wantsLeft 0 := ⟨⟨(eg_t4 (i := 133) (by decide +kernel) rfl), ws_mtX2_wantsLeft.1, ws_mtX2_wantsLeft.2, wi_mtX2_wantsLeft⟩, wd_mtX2_wantsLeft⟩
theorem ml_7_243 : eg_MV RX7 243 mtX7_stepOut 1 := ⟨⟨(eg_t4 (i := 152) (by decide +kernel) rfl), ws_mtX7_stepOut.1, ws_mtX7_stepOut.2, wi_mtX7_stepOut⟩, wd_mtX7_stepOut⟩
theorem ml_7_246 : eg_MV RX7 246 mtX3_setName 2 := ⟨⟨(eg_t4 (i := 137) (by decide +kernel) rfl), ws_mtX3_setName.1, ws_mtX3_setName.2, wi_mtX3_setName⟩, wd_mtX3_setName⟩
theorem ml_7_259 : eg_MV RX7 259 mtX7_sendAway 1 := ⟨⟨(eg_t4 (i := 219) (by decide +kernel) rfl), ws_mtX7_sendAway.1, ws_mtX7_sendAway.2, wi_mtX7_sendAway⟩, wd_mtX7_sendAway⟩
theorem ml_8_35 : eg_MV RX8 35 mtX8_knownCounts 0 := ⟨⟨(eg_t5 (i := 147) (by decide +kernel) rfl), ws_mtX8_knownCounts.1, ws_mtX8_knownCounts.2, wi_mtX8_knownCounts⟩, wd_mtX8_knownCounts⟩
theorem ml_9_22 : eg_MV RX9 22 mtX9_advance 0 := ⟨⟨(eg_t3 (i := 91) (by decide +kernel) rfl), ws_mtX9_advance.1, ws_mtX9_advance.2, wi_mtX9_advance⟩, wd_mtX9_advance⟩
theorem ml_9_31 : eg_MV RX9 31 mtX9_readWord 0 := ⟨⟨(eg_t3 (i := 95) (by decide +kernel) rfl), ws_mtX9_readWord.1, ws_mtX9_readWord.2, wi_mtX9_readWord⟩, wd_mtX9_readWord⟩
theorem ml_9_34 : eg_MV RX9 34 mtX9_readNumber 0 := ⟨⟨(eg_t3 (i := 152) (by decide +kernel) rfl), ws_mtX9_readNumber.1, ws_mtX9_readNumber.2, wi_mtX9_readNumber⟩, wd_mtX9_readNumber⟩
theorem ml_9_37 : eg_MV RX9 37 mtX9_readSign 0 := ⟨⟨(eg_t3 (i := 156) (by decide +kernel) rfl), ws_mtX9_readSign.1, ws_mtX9_readSign.2, wi_mtX9_readSign⟩, wd_mtX9_readSign⟩
theorem ml_9_43 : eg_MV RX9 43 mtX9_wordOfLanguage 0 := ⟨⟨(eg_t3 (i := 99) (by decide +kernel) rfl), ws_mtX9_wordOfLanguage.1, ws_mtX9_wordOfLanguage.2, wi_mtX9_wordOfLanguage⟩, wd_mtX9_wordOfLanguage⟩
theorem ml_11_121 : eg_MV RX11 121 mtX11_plain 0 := ⟨⟨(eg_t6 (i := 38) (by decide +kernel) rfl), ws_mtX11_plain.1, ws_mtX11_plain.2, wi_mtX11_plain⟩, wd_mtX11_plain⟩
theorem ml_11_124 : eg_MV RX11 124 mtX11_keepText 0 := ⟨⟨(eg_t6 (i := 42) (by decide +kernel) rfl), ws_mtX11_keepText.1, ws_mtX11_keepText.2, wi_mtX11_keepText⟩, wd_mtX11_keepText⟩
theorem ml_11_148 : eg_MV RX11 148 mtX11_isSmall 1 := ⟨⟨(eg_t7 (i := 105) (by decide +kernel) rfl), ws_mtX11_isSmall.1, ws_mtX11_isSmall.2, wi_mtX11_isSmall⟩, wd_mtX11_isSmall⟩
theorem ml_11_152 : eg_MV RX11 152 mtX11_wordAt 2 := ⟨⟨(eg_t7 (i := 109) (by decide +kernel) rfl), ws_mtX11_wordAt.1, ws_mtX11_wordAt.2, wi_mtX11_wordAt⟩, wd_mtX11_wordAt⟩
theorem ml_11_159 : eg_MV RX11 159 mtX11_packed 2 := ⟨⟨(eg_t7 (i := 113) (by decide +kernel) rfl), ws_mtX11_packed.1, ws_mtX11_packed.2, wi_mtX11_packed⟩, wd_mtX11_packed⟩
theorem ml_11_162 : eg_MV RX11 162 mtX11_isDigit 1 := ⟨⟨(eg_t7 (i := 117) (by decide +kernel) rfl), ws_mtX11_isDigit.1, ws_mtX11_isDigit.2, wi_mtX11_isDigit⟩, wd_mtX11_isDigit⟩
theorem ml_11_165 : eg_MV RX11 165 mtX11_signToken 0 := ⟨⟨(eg_t7 (i := 121) (by decide +kernel) rfl), ws_mtX11_signToken.1, ws_mtX11_signToken.2, wi_mtX11_signToken⟩, wd_mtX11_signToken⟩
theorem ml_11_168 : eg_MV RX11 168 mtX11_wrong 1 := ⟨⟨(eg_t7 (i := 129) (by decide +kernel) rfl), ws_mtX11_wrong.1, ws_mtX11_wrong.2, wi_mtX11_wrong⟩, wd_mtX11_wrong⟩
theorem ml_11_171 : eg_MS RX11 171 mtX11_isIn 3 := ⟨⟨(eg_t7 (i := 148) (by decide +kernel) rfl), ws_mtX11_isIn, wi_mtX11_isIn⟩, wd_mtX11_isIn⟩
theorem ml_11_178 : eg_MV RX11 178 mtX11_token 0 := ⟨⟨(eg_t7 (i := 101) (by decide +kernel) rfl), ws_mtX11_token.1, ws_mtX11_token.2, wi_mtX11_token⟩, wd_mtX11_token⟩
theorem ml_11_230 : eg_MS RX11 230 mtX11_copies 2 := ⟨⟨(eg_t6 (i := 46) (by decide +kernel) rfl), ws_mtX11_copies, wi_mtX11_copies⟩, wd_mtX11_copies⟩
theorem ml_11_243 : eg_MV RX11 243 mtX11_clears 0 := ⟨⟨(eg_t6 (i := 49) (by decide +kernel) rfl), ws_mtX11_clears.1, ws_mtX11_clears.2, wi_mtX11_clears⟩, wd_mtX11_clears⟩
theorem ml_11_246 : eg_MV RX11 246 mtX11_begins 0 := ⟨⟨(eg_t6 (i := 53) (by decide +kernel) rfl), ws_mtX11_begins.1, ws_mtX11_begins.2, wi_mtX11_begins⟩, wd_mtX11_begins⟩
theorem ml_11_249 : eg_MS RX11 249 mtX11_lays 2 := ⟨⟨(eg_t6 (i := 79) (by decide +kernel) rfl), ws_mtX11_lays, wi_mtX11_lays⟩, wd_mtX11_lays⟩
theorem ml_11_253 : eg_MS RX11 253 mtX11_find 4 := ⟨⟨(eg_t7 (i := 141) (by decide +kernel) rfl), ws_mtX11_find, wi_mtX11_find⟩, wd_mtX11_find⟩
theorem ml_11_257 : eg_MV RX11 257 mtX11_newName 3 := ⟨⟨(eg_t7 (i := 137) (by decide +kernel) rfl), ws_mtX11_newName.1, ws_mtX11_newName.2, wi_mtX11_newName⟩, wd_mtX11_newName⟩
theorem ml_11_261 : eg_MV RX11 261 mtX11_number 2 := ⟨⟨(eg_t7 (i := 144) (by decide +kernel) rfl), ws_mtX11_number.1, ws_mtX11_number.2, wi_mtX11_number⟩, wd_mtX11_number⟩
theorem ml_11_265 : eg_MV RX11 265 mtX11_isKey 1 := ⟨⟨(eg_t7 (i := 151) (by decide +kernel) rfl), ws_mtX11_isKey.1, ws_mtX11_isKey.2, wi_mtX11_isKey⟩, wd_mtX11_isKey⟩
theorem ml_11_268 : eg_MV RX11 268 mtX11_sumRead 0 := ⟨⟨(eg_t7 (i := 171) (by decide +kernel) rfl), ws_mtX11_sumRead.1, ws_mtX11_sumRead.2, wi_mtX11_sumRead⟩, wd_mtX11_sumRead⟩
theorem ml_11_272 : eg_MV RX11 272 mtX11_lawKind 0 := ⟨⟨(eg_t7 (i := 163) (by decide +kernel) rfl), ws_mtX11_lawKind.1, ws_mtX11_lawKind.2, wi_mtX11_lawKind⟩, wd_mtX11_lawKind⟩
theorem ml_11_276 : eg_MV RX11 276 mtX11_sumInto 1 := ⟨⟨(eg_t7 (i := 167) (by decide +kernel) rfl), ws_mtX11_sumInto.1, ws_mtX11_sumInto.2, wi_mtX11_sumInto⟩, wd_mtX11_sumInto⟩
theorem ml_11_279 : eg_MV RX11 279 mtX11_stationLine 0 := ⟨⟨(eg_t7 (i := 133) (by decide +kernel) rfl), ws_mtX11_stationLine.1, ws_mtX11_stationLine.2, wi_mtX11_stationLine⟩, wd_mtX11_stationLine⟩
theorem ml_11_282 : eg_MV RX11 282 mtX11_guestLine 0 := ⟨⟨(eg_t7 (i := 155) (by decide +kernel) rfl), ws_mtX11_guestLine.1, ws_mtX11_guestLine.2, wi_mtX11_guestLine⟩, wd_mtX11_guestLine⟩
theorem ml_11_285 : eg_MV RX11 285 mtX11_lawLine 0 := ⟨⟨(eg_t7 (i := 159) (by decide +kernel) rfl), ws_mtX11_lawLine.1, ws_mtX11_lawLine.2, wi_mtX11_lawLine⟩, wd_mtX11_lawLine⟩
theorem ml_11_288 : eg_MV RX11 288 mtX11_mayLine 0 := ⟨⟨(eg_t7 (i := 210) (by decide +kernel) rfl), ws_mtX11_mayLine.1, ws_mtX11_mayLine.2, wi_mtX11_mayLine⟩, wd_mtX11_mayLine⟩
theorem ml_11_291 : eg_MV RX11 291 mtX11_isSign 1 := ⟨⟨(eg_t7 (i := 175) (by decide +kernel) rfl), ws_mtX11_isSign.1, ws_mtX11_isSign.2, wi_mtX11_isSign⟩, wd_mtX11_isSign⟩
theorem ml_11_294 : eg_MV RX11 294 mtX11_lineRead 0 := ⟨⟨(eg_t7 (i := 125) (by decide +kernel) rfl), ws_mtX11_lineRead.1, ws_mtX11_lineRead.2, wi_mtX11_lineRead⟩, wd_mtX11_lineRead⟩
theorem ml_11_303 : eg_MS RX11 303 mtX11_rank 1 := ⟨⟨(eg_t7 (i := 203) (by decide +kernel) rfl), ws_mtX11_rank, wi_mtX11_rank⟩, wd_mtX11_rank⟩
theorem ml_11_307 : eg_MV RX11 307 mtX11_dropHeld 0 := ⟨⟨(eg_t7 (i := 206) (by decide +kernel) rfl), ws_mtX11_dropHeld.1, ws_mtX11_dropHeld.2, wi_mtX11_dropHeld⟩, wd_mtX11_dropHeld⟩
theorem ml_11_310 : eg_MV RX11 310 mtX11_grown 3 := ⟨⟨(eg_t7 (i := 191) (by decide +kernel) rfl), ws_mtX11_grown.1, ws_mtX11_grown.2, wi_mtX11_grown⟩, wd_mtX11_grown⟩
theorem ml_11_317 : eg_MV RX11 317 mtX11_waitsFor 1 := ⟨⟨(eg_t7 (i := 183) (by decide +kernel) rfl), ws_mtX11_waitsFor.1, ws_mtX11_waitsFor.2, wi_mtX11_waitsFor⟩, wd_mtX11_waitsFor⟩
theorem ml_11_324 : eg_MV RX11 324 mtX11_isCounted 0 := ⟨⟨(eg_t7 (i := 187) (by decide +kernel) rfl), ws_mtX11_isCounted.1, ws_mtX11_isCounted.2, wi_mtX11_isCounted⟩, wd_mtX11_isCounted⟩
theorem ml_11_330 : eg_MV RX11 330 mtX11_bind 1 := ⟨⟨(eg_t7 (i := 199) (by decide +kernel) rfl), ws_mtX11_bind.1, ws_mtX11_bind.2, wi_mtX11_bind⟩, wd_mtX11_bind⟩
theorem ml_11_333 : eg_MV RX11 333 mtX11_leafRead 0 := ⟨⟨(eg_t7 (i := 179) (by decide +kernel) rfl), ws_mtX11_leafRead.1, ws_mtX11_leafRead.2, wi_mtX11_leafRead⟩, wd_mtX11_leafRead⟩
theorem ml_11_336 : eg_MV RX11 336 mtX11_signs 0 := ⟨⟨(eg_t7 (i := 195) (by decide +kernel) rfl), ws_mtX11_signs.1, ws_mtX11_signs.2, wi_mtX11_signs⟩, wd_mtX11_signs⟩
theorem ml_11_366 : eg_MV RX11 366 mtX11_has 2 := ⟨⟨(eg_t6 (i := 71) (by decide +kernel) rfl), ws_mtX11_has.1, ws_mtX11_has.2, wi_mtX11_has⟩, wd_mtX11_has⟩
theorem ml_11_369 : eg_MV RX11 369 mtX11_everybody 0 := ⟨⟨(eg_t6 (i := 57) (by decide +kernel) rfl), ws_mtX11_everybody.1, ws_mtX11_everybody.2, wi_mtX11_everybody⟩, wd_mtX11_everybody⟩
theorem ml_11_372 : eg_MS RX11 372 mtX11_at 1 := ⟨⟨(eg_t6 (i := 61) (by decide +kernel) rfl), ws_mtX11_at, wi_mtX11_at⟩, wd_mtX11_at⟩
theorem ml_11_374 : eg_MV RX11 374 mtX11_sizeOf 1 := ⟨⟨(eg_t6 (i := 64) (by decide +kernel) rfl), ws_mtX11_sizeOf.1, ws_mtX11_sizeOf.2, wi_mtX11_sizeOf⟩, wd_mtX11_sizeOf⟩
theorem ml_11_377 : eg_MS RX11 377 mtX11_pan 1 := ⟨⟨(eg_t6 (i := 68) (by decide +kernel) rfl), ws_mtX11_pan, wi_mtX11_pan⟩, wd_mtX11_pan⟩
theorem ml_11_380 : eg_MV RX11 380 mtX11_portionsOf 1 := ⟨⟨(eg_t6 (i := 75) (by decide +kernel) rfl), ws_mtX11_portionsOf.1, ws_mtX11_portionsOf.2, wi_mtX11_portionsOf⟩, wd_mtX11_portionsOf⟩
theorem ml_11_390 : eg_MV RX11 390 mtX11_bounded 1 := ⟨⟨(eg_t8 (i := 62) (by decide +kernel) rfl), ws_mtX11_bounded.1, ws_mtX11_bounded.2, wi_mtX11_bounded⟩, wd_mtX11_bounded⟩
theorem ml_11_394 : eg_MV RX11 394 mtX11_times 2 := ⟨⟨(eg_t8 (i := 68) (by decide +kernel) rfl), ws_mtX11_times.1, ws_mtX11_times.2, wi_mtX11_times⟩, wd_mtX11_times⟩
theorem ml_11_398 : eg_MS RX11 398 mtX11_compares 3 := ⟨⟨(eg_t8 (i := 72) (by decide +kernel) rfl), ws_mtX11_compares, wi_mtX11_compares⟩, wd_mtX11_compares⟩
theorem ml_11_402 : eg_MV RX11 402 mtX11_valueOf 1 := ⟨⟨(eg_t8 (i := 58) (by decide +kernel) rfl), ws_mtX11_valueOf.1, ws_mtX11_valueOf.2, wi_mtX11_valueOf⟩, wd_mtX11_valueOf⟩
theorem ml_11_409 : eg_MV RX11 409 mtX11_sumOf 1 := ⟨⟨(eg_t8 (i := 54) (by decide +kernel) rfl), ws_mtX11_sumOf.1, ws_mtX11_sumOf.2, wi_mtX11_sumOf⟩, wd_mtX11_sumOf⟩
theorem ml_11_412 : eg_MV RX11 412 mtX11_plateOf 1 := ⟨⟨(eg_t8 (i := 38) (by decide +kernel) rfl), ws_mtX11_plateOf.1, ws_mtX11_plateOf.2, wi_mtX11_plateOf⟩, wd_mtX11_plateOf⟩
theorem ml_11_415 : eg_MV RX11 415 mtX11_hasPan 1 := ⟨⟨(eg_t8 (i := 2) (by decide +kernel) rfl), ws_mtX11_hasPan.1, ws_mtX11_hasPan.2, wi_mtX11_hasPan⟩, wd_mtX11_hasPan⟩
theorem ml_11_420 : eg_MV RX11 420 mtX11_layNames 4 := ⟨⟨(eg_t8 (i := 46) (by decide +kernel) rfl), ws_mtX11_layNames.1, ws_mtX11_layNames.2, wi_mtX11_layNames⟩, wd_mtX11_layNames⟩
theorem ml_11_424 : eg_MV RX11 424 mtX11_wantsOf 1 := ⟨⟨(eg_t8 (i := 42) (by decide +kernel) rfl), ws_mtX11_wantsOf.1, ws_mtX11_wantsOf.2, wi_mtX11_wantsOf⟩, wd_mtX11_wantsOf⟩
theorem ml_11_427 : eg_MV RX11 427 mtX11_lawOf 2 := ⟨⟨(eg_t8 (i := 50) (by decide +kernel) rfl), ws_mtX11_lawOf.1, ws_mtX11_lawOf.2, wi_mtX11_lawOf⟩, wd_mtX11_lawOf⟩
theorem ml_11_431 : eg_MV RX11 431 mtX11_outOfLine 1 := ⟨⟨(eg_t8 (i := 75) (by decide +kernel) rfl), ws_mtX11_outOfLine.1, ws_mtX11_outOfLine.2, wi_mtX11_outOfLine⟩, wd_mtX11_outOfLine⟩
theorem ml_11_434 : eg_MV RX11 434 mtX11_layNamesAt 2 := ⟨⟨(eg_t8 (i := 91) (by decide +kernel) rfl), ws_mtX11_layNamesAt.1, ws_mtX11_layNamesAt.2, wi_mtX11_layNamesAt⟩, wd_mtX11_layNamesAt⟩
theorem ml_11_438 : eg_MV RX11 438 mtX11_takersAt 1 := ⟨⟨(eg_t8 (i := 83) (by decide +kernel) rfl), ws_mtX11_takersAt.1, ws_mtX11_takersAt.2, wi_mtX11_takersAt⟩, wd_mtX11_takersAt⟩
theorem ml_11_444 : eg_MV RX11 444 mtX11_heaps 2 := ⟨⟨(eg_t8 (i := 87) (by decide +kernel) rfl), ws_mtX11_heaps.1, ws_mtX11_heaps.2, wi_mtX11_heaps⟩, wd_mtX11_heaps⟩
theorem ml_11_447 : eg_MV RX11 447 mtX11_nextOf 1 := ⟨⟨(eg_t8 (i := 30) (by decide +kernel) rfl), ws_mtX11_nextOf.1, ws_mtX11_nextOf.2, wi_mtX11_nextOf⟩, wd_mtX11_nextOf⟩
theorem ml_11_450 : eg_MV RX11 450 mtX11_sits 1 := ⟨⟨(eg_t8 (i := 34) (by decide +kernel) rfl), ws_mtX11_sits.1, ws_mtX11_sits.2, wi_mtX11_sits⟩, wd_mtX11_sits⟩
theorem ml_11_453 : eg_MV RX11 453 mtX11_goesTo 2 := ⟨⟨(eg_t8 (i := 79) (by decide +kernel) rfl), ws_mtX11_goesTo.1, ws_mtX11_goesTo.2, wi_mtX11_goesTo⟩, wd_mtX11_goesTo⟩
theorem ml_11_459 : eg_MV RX11 459 mtX11_comesNow 1 := ⟨⟨(eg_t8 (i := 22) (by decide +kernel) rfl), ws_mtX11_comesNow.1, ws_mtX11_comesNow.2, wi_mtX11_comesNow⟩, wd_mtX11_comesNow⟩
theorem ml_11_462 : eg_MV RX11 462 mtX11_goes 1 := ⟨⟨(eg_t8 (i := 26) (by decide +kernel) rfl), ws_mtX11_goes.1, ws_mtX11_goes.2, wi_mtX11_goes⟩, wd_mtX11_goes⟩
theorem ml_11_465 : eg_MV RX11 465 mtX11_pansGo 0 := ⟨⟨(eg_t8 (i := 96) (by decide +kernel) rfl), ws_mtX11_pansGo.1, ws_mtX11_pansGo.2, wi_mtX11_pansGo⟩, wd_mtX11_pansGo⟩
theorem ml_11_468 : eg_MV RX11 468 mtX11_second 0 := ⟨⟨(eg_t8 (i := 18) (by decide +kernel) rfl), ws_mtX11_second.1, ws_mtX11_second.2, wi_mtX11_second⟩, wd_mtX11_second⟩
theorem ml_11_472 : eg_MV RX11 472 mtX11_isGuest 1 := ⟨⟨(eg_t7 (i := 226) (by decide +kernel) rfl), ws_mtX11_isGuest.1, ws_mtX11_isGuest.2, wi_mtX11_isGuest⟩, wd_mtX11_isGuest⟩
theorem ml_11_475 : eg_MV RX11 475 mtX11_fails 1 := ⟨⟨(eg_t7 (i := 230) (by decide +kernel) rfl), ws_mtX11_fails.1, ws_mtX11_fails.2, wi_mtX11_fails⟩, wd_mtX11_fails⟩
theorem ml_11_478 : eg_MV RX11 478 mtX11_isStation 1 := ⟨⟨(eg_t7 (i := 238) (by decide +kernel) rfl), ws_mtX11_isStation.1, ws_mtX11_isStation.2, wi_mtX11_isStation⟩, wd_mtX11_isStation⟩
theorem ml_11_481 : eg_MV RX11 481 mtX11_remembers 0 := ⟨⟨(eg_t8 (i := 104) (by decide +kernel) rfl), ws_mtX11_remembers.1, ws_mtX11_remembers.2, wi_mtX11_remembers⟩, wd_mtX11_remembers⟩
theorem ml_11_484 : eg_MV RX11 484 mtX11_layRow 0 := ⟨⟨(eg_t8 (i := 112) (by decide +kernel) rfl), ws_mtX11_layRow.1, ws_mtX11_layRow.2, wi_mtX11_layRow⟩, wd_mtX11_layRow⟩
theorem ml_11_487 : eg_MS RX11 487 mtX11_isTime 1 := ⟨⟨(eg_t8 (i := 128) (by decide +kernel) rfl), ws_mtX11_isTime, wi_mtX11_isTime⟩, wd_mtX11_isTime⟩
theorem ml_11_490 : eg_MV RX11 490 mtX11_runs 1 := ⟨⟨(eg_t8 (i := 131) (by decide +kernel) rfl), ws_mtX11_runs.1, ws_mtX11_runs.2, wi_mtX11_runs⟩, wd_mtX11_runs⟩
theorem ml_11_493 : eg_MV RX11 493 mtX11_waitedOf 1 := ⟨⟨(eg_t8 (i := 135) (by decide +kernel) rfl), ws_mtX11_waitedOf.1, ws_mtX11_waitedOf.2, wi_mtX11_waitedOf⟩, wd_mtX11_waitedOf⟩
theorem ml_11_497 : eg_MS RX11 497 mtX11_isBound 1 := ⟨⟨(eg_t8 (i := 148) (by decide +kernel) rfl), ws_mtX11_isBound, wi_mtX11_isBound⟩, wd_mtX11_isBound⟩
theorem ml_11_500 : eg_MS RX11 500 mtX11_nextOrder 2 := ⟨⟨(eg_t8 (i := 156) (by decide +kernel) rfl), ws_mtX11_nextOrder, wi_mtX11_nextOrder⟩, wd_mtX11_nextOrder⟩
theorem ml_11_504 : eg_MV RX11 504 mtX11_takenAt 3 := ⟨⟨(eg_t8 (i := 163) (by decide +kernel) rfl), ws_mtX11_takenAt.1, ws_mtX11_takenAt.2, wi_mtX11_takenAt⟩, wd_mtX11_takenAt⟩
theorem ml_11_508 : eg_MV RX11 508 mtX11_sumBy 1 := ⟨⟨(eg_t8 (i := 171) (by decide +kernel) rfl), ws_mtX11_sumBy.1, ws_mtX11_sumBy.2, wi_mtX11_sumBy⟩, wd_mtX11_sumBy⟩
theorem ml_11_511 : eg_MV RX11 511 mtX11_isRule 5 := ⟨⟨(eg_t8 (i := 183) (by decide +kernel) rfl), ws_mtX11_isRule.1, ws_mtX11_isRule.2, wi_mtX11_isRule⟩, wd_mtX11_isRule⟩
theorem ml_11_515 : eg_MV RX11 515 mtX11_costAt 4 := ⟨⟨(eg_t8 (i := 187) (by decide +kernel) rfl), ws_mtX11_costAt.1, ws_mtX11_costAt.2, wi_mtX11_costAt⟩, wd_mtX11_costAt⟩
theorem ml_11_529 : eg_MV RX11 529 mtX11_knownMany 0 := ⟨⟨(eg_t8 (i := 228) (by decide +kernel) rfl), ws_mtX11_knownMany.1, ws_mtX11_knownMany.2, wi_mtX11_knownMany⟩, wd_mtX11_knownMany⟩
theorem ml_11_532 : eg_MV RX11 532 mtX11_isFit 1 := ⟨⟨(eg_t8 (i := 232) (by decide +kernel) rfl), ws_mtX11_isFit.1, ws_mtX11_isFit.2, wi_mtX11_isFit⟩, wd_mtX11_isFit⟩
theorem ml_11_535 : eg_MV RX11 535 mtX11_truthSum 1 := ⟨⟨(eg_t9 (i := 8) (by decide +kernel) rfl), ws_mtX11_truthSum.1, ws_mtX11_truthSum.2, wi_mtX11_truthSum⟩, wd_mtX11_truthSum⟩
theorem kc_3_41 : Cond.constantLong RX3 41 (-9223372036854775808 : Int64) ∈ eg_T := (eg_t4 (i := 145) (by decide +kernel) rfl)
theorem kc_3_47 : Cond.constantLong RX3 47 (1000000000000 : Int64) ∈ eg_T := (eg_t4 (i := 149) (by decide +kernel) rfl)
theorem kc_3_49 : Cond.constantLong RX3 49 (-1000000000000 : Int64) ∈ eg_T := (eg_t4 (i := 150) (by decide +kernel) rfl)
theorem kc_7_214 : Cond.constantLong RX7 214 (-9223372036854775808 : Int64) ∈ eg_T := (eg_t4 (i := 151) (by decide +kernel) rfl)
theorem kc_10_282 : Cond.constant RX10 282 (-2147483648 : Int32) ∈ eg_T := (eg_t5 (i := 19) (by decide +kernel) rfl)
theorem kc_10_294 : Cond.constant RX10 294 (99999 : Int32) ∈ eg_T := (eg_t5 (i := 43) (by decide +kernel) rfl)
theorem kc_10_341 : Cond.constantLong RX10 341 (1103515245 : Int64) ∈ eg_T := (eg_t5 (i := 109) (by decide +kernel) rfl)
theorem kc_10_343 : Cond.constantLong RX10 343 (12345 : Int64) ∈ eg_T := (eg_t5 (i := 110) (by decide +kernel) rfl)
theorem kc_10_345 : Cond.constantLong RX10 345 (2147483647 : Int64) ∈ eg_T := (eg_t5 (i := 111) (by decide +kernel) rfl)
theorem kc_10_347 : Cond.constantLong RX10 347 (65536 : Int64) ∈ eg_T := (eg_t5 (i := 112) (by decide +kernel) rfl)
theorem kc_10_352 : Cond.constantLong RX10 352 (-9223372036854775808 : Int64) ∈ eg_T := (eg_t5 (i := 120) (by decide +kernel) rfl)
theorem kc_11_386 : Cond.constantLong RX11 386 (1000000000000 : Int64) ∈ eg_T := (eg_t8 (i := 66) (by decide +kernel) rfl)
theorem kc_11_388 : Cond.constantLong RX11 388 (-1000000000000 : Int64) ∈ eg_T := (eg_t8 (i := 67) (by decide +kernel) rfl)
theorem kc_11_418 : Cond.constantLong RX11 418 (999 : Int64) ∈ eg_T := (eg_t8 (i := 95) (by decide +kernel) rfl)
theorem kc_11_496 : Cond.constant RX11 496 (-2147483648 : Int32) ∈ eg_T := (eg_t8 (i := 143) (by decide +kernel) rfl)
theorem kc_11_471 : Cond.constant RX11 471 (99999 : Int32) ∈ eg_T := (eg_t8 (i := 151) (by decide +kernel) rfl)
theorem kc_11_519 : Cond.constantLong RX11 519 (1103515245 : Int64) ∈ eg_T := (eg_t8 (i := 203) (by decide +kernel) rfl)
theorem kc_11_521 : Cond.constantLong RX11 521 (12345 : Int64) ∈ eg_T := (eg_t8 (i := 204) (by decide +kernel) rfl)
theorem kc_11_523 : Cond.constantLong RX11 523 (2147483647 : Int64) ∈ eg_T := (eg_t8 (i := 205) (by decide +kernel) rfl)
theorem kc_11_525 : Cond.constantLong RX11 525 (65536 : Int64) ∈ eg_T := (eg_t8 (i := 206) (by decide +kernel) rfl)
theorem kc_11_527 : Cond.constantLong RX11 527 (-9223372036854775808 : Int64) ∈ eg_T := (eg_t8 (i := 211) (by decide +kernel) rfl)
