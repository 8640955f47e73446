/-! words, class facts, methods: by program (wip/whole/gen_code.py) -/
abbrev MX11_init : MI := (yX11_init, cX11_init, 1, none, [])
abbrev MX11_feed : MI := (yX11_feed, cX11_feed, 6, (Option.some FieldType.int), [])
abbrev MX11_city : MI := (yX11_city, cX11_city, 3, (Option.some FieldType.int), [])
abbrev MX11_law : MI := (yX11_law, cX11_law, 3, (Option.some FieldType.int), [])
abbrev MX11_work : MI := (yX11_work, cX11_work, 2, (Option.some FieldType.int), [])
abbrev MX11_post : MI := (yX11_post, cX11_post, 3, (Option.some FieldType.int), [])
abbrev MX11_fault : MI := (yX11_fault, cX11_fault, 1, (Option.some FieldType.int), [])
abbrev MX11_undo : MI := (yX11_undo, cX11_undo, 1, (Option.some FieldType.int), [])
abbrev MX11_told : MI := (yX11_told, cX11_told, 2, (Option.some FieldType.int), [])
abbrev MX11_street : MI := (yX11_street, cX11_street, 3, (Option.some FieldType.int), [])
abbrev MX11_likes : MI := (yX11_likes, cX11_likes, 3, (Option.some FieldType.int), [])
abbrev MX11_banns : MI := (yX11_banns, cX11_banns, 3, (Option.some FieldType.int), [])
abbrev MX11_number : MI := (yX11_number, cX11_number, 3, (Option.some FieldType.int), [])
abbrev MX11_letter : MI := (yX11_letter, cX11_letter, 6, (Option.some FieldType.int), [])
abbrev MX11_last : MI := (yX11_last, cX11_last, 2, (Option.some FieldType.int), [])
abbrev MX11_missing : MI := (yX11_missing, cX11_missing, 4, (Option.some FieldType.int), [])
abbrev MX11_stable : MI := (yX11_stable, cX11_stable, 1, (Option.some FieldType.int), [])
abbrev MX11_stableFor : MI := (yX11_stableFor, cX11_stableFor, 2, (Option.some FieldType.int), [])
abbrev MX11_best : MI := (yX11_best, cX11_best, 1, (Option.some FieldType.int), [])
abbrev MX11_bestFor : MI := (yX11_bestFor, cX11_bestFor, 2, (Option.some FieldType.int), [])
abbrev MX11_tempted : MI := (yX11_tempted, cX11_tempted, 3, (Option.some FieldType.int), [])
abbrev MX11_way : MI := (yX11_way, cX11_way, 3, (Option.some FieldType.int), [])
abbrev MX11_round : MI := (yX11_round, cX11_round, 2, (Option.some FieldType.int), [])
abbrev MX11_reach : MI := (yX11_reach, cX11_reach, 4, (Option.some FieldType.int), [])
abbrev MX11_bridges : MI := (yX11_bridges, cX11_bridges, 5, (Option.some FieldType.int), [])
abbrev MX11_fair : MI := (yX11_fair, cX11_fair, 7, (Option.some FieldType.int), [])
abbrev MX11_even : MI := (yX11_even, cX11_even, 5, (Option.some FieldType.int), [])
abbrev MX11_mates : MI := (yX11_mates, cX11_mates, 6, (Option.some FieldType.int), [])
abbrev MX11_look : MI := (yX11_look, cX11_look, 10, (Option.some FieldType.int), [])
abbrev MX11_right : MI := (yX11_right, cX11_right, 2, (Option.some FieldType.int), [])
abbrev MX11_lane : MI := (yX11_lane, cX11_lane, 2, (Option.some FieldType.int), [])
abbrev MX11_stop : MI := (yX11_stop, cX11_stop, 5, (Option.some FieldType.int), [])
abbrev MX11_suitors : MI := (yX11_suitors, cX11_suitors, 5, (Option.some FieldType.int), [])
abbrev MX11_gets : MI := (yX11_gets, cX11_gets, 4, (Option.some FieldType.int), [])
abbrev MX11_ahead : MI := (yX11_ahead, cX11_ahead, 4, (Option.some FieldType.int), [])
abbrev MX11_centuries : MI := (yX11_centuries, cX11_centuries, 6, (Option.some FieldType.int), [])
abbrev MX11_span : MI := (yX11_span, cX11_span, 11, (Option.some FieldType.int), [])
abbrev MX11_image : MI := (yX11_image, cX11_image, 1, (Option.some FieldType.int), [])
abbrev MX11_restore : MI := (yX11_restore, cX11_restore, 1, (Option.some FieldType.int), [])
abbrev MX11_status : MI := (yX11_status, cX11_status, 2, (Option.some FieldType.int), [])
abbrev MX11_count : MI := (yX11_count, cX11_count, 2, (Option.some FieldType.int), [])
abbrev MX11_tapeFour : MI := (yX11_tapeFour, cX11_tapeFour, 3, none, [])
abbrev MX11_openText : MI := (yX11_openText, cX11_openText, 3, none, [])
abbrev MX11_need : MI := (yX11_need, cX11_need, 2, none, [])
abbrev MX11_needStreet : MI := (yX11_needStreet, cX11_needStreet, 2, none, [])
abbrev MX11_needCorner : MI := (yX11_needCorner, cX11_needCorner, 2, none, [])
abbrev MX11_needElement : MI := (yX11_needElement, cX11_needElement, 2, none, [])
abbrev MX11_needHouse : MI := (yX11_needHouse, cX11_needHouse, 2, none, [])
abbrev MX11_needCenturies : MI := (yX11_needCenturies, cX11_needCenturies, 3, none, [])
abbrev MX11_isDowry : MI := (yX11_isDowry, cX11_isDowry, 1, (Option.some FieldType.boolean), [])
abbrev MX11_houseWith : MI := (yX11_houseWith, cX11_houseWith, 3, (Option.some FieldType.int), [])
abbrev MX11_greatestNumber : MI := (yX11_greatestNumber, cX11_greatestNumber, 4, (Option.some FieldType.int), [])
abbrev MX11_wouldLeave : MI := (yX11_wouldLeave, cX11_wouldLeave, 3, (Option.some FieldType.boolean), [])
abbrev MX11_matesOf : MI := (yX11_matesOf, cX11_matesOf, 7, (Option.some FieldType.int), [])
abbrev MX11_mayBeAlone : MI := (yX11_mayBeAlone, cX11_mayBeAlone, 2, (Option.some FieldType.int), [])
abbrev MX11_dreamCenturies : MI := (yX11_dreamCenturies, cX11_dreamCenturies, 7, (Option.some FieldType.int), [])
abbrev MX11_nextSeed : MI := (yX11_nextSeed, cX11_nextSeed, 1, (Option.some FieldType.int), [])
abbrev MX11_drawBelow : MI := (yX11_drawBelow, cX11_drawBelow, 2, (Option.some FieldType.int), [])
abbrev MX12_init : MI := (yX12_init, cX12_init, 1, none, [])
abbrev MX12_tellsNothing : MI := (yX12_tellsNothing, cX12_tellsNothing, 3, none, [])
abbrev MX12_thrown : MI := (yX12_thrown, cX12_thrown, 1, (Option.some FieldType.int), [])
abbrev MX12_bad : MI := (yX12_bad, cX12_bad, 4, (Option.some FieldType.boolean), [])
abbrev MX12_in : MI := (yX12_in, cX12_in, 3, (Option.some FieldType.boolean), [])
abbrev MX12_less : MI := (yX12_less, cX12_less, 2, (Option.some FieldType.int), [])
abbrev MX12_more : MI := (yX12_more, cX12_more, 2, (Option.some FieldType.int), [])
abbrev MX12_away : MI := (yX12_away, cX12_away, 2, (Option.some FieldType.int), [])
abbrev MX12_has : MI := (yX12_has, cX12_has, 2, (Option.some FieldType.boolean), [])
abbrev MX12_feed : MI := (yX12_feed, cX12_feed, 8, (Option.some FieldType.int), [])
abbrev MX12_byteAt : MI := (yX12_byteAt, cX12_byteAt, 2, (Option.some FieldType.int), [])
abbrev MX12_blanks : MI := (yX12_blanks, cX12_blanks, 1, none, [])
abbrev MX12_wrong : MI := (yX12_wrong, cX12_wrong, 3, none, [])
abbrev MX12_isDigit : MI := (yX12_isDigit, cX12_isDigit, 1, (Option.some FieldType.boolean), [])
abbrev MX12_isSmall : MI := (yX12_isSmall, cX12_isSmall, 1, (Option.some FieldType.boolean), [])
abbrev MX12_numberHere : MI := (yX12_numberHere, cX12_numberHere, 5, (Option.some FieldType.int), [])
abbrev MX12_wordHere : MI := (yX12_wordHere, cX12_wordHere, 4, (Option.some FieldType.long), [])
abbrev MX12_seven : MI := (yX12_seven, cX12_seven, 9, (Option.some FieldType.long), [])
abbrev MX12_isWord : MI := (yX12_isWord, cX12_isWord, 8, (Option.some FieldType.boolean), [])
abbrev MX12_skipWord : MI := (yX12_skipWord, cX12_skipWord, 1, none, [])
abbrev MX12_takes : MI := (yX12_takes, cX12_takes, 9, (Option.some FieldType.boolean), [])
abbrev MX12_sign : MI := (yX12_sign, cX12_sign, 2, none, [])
abbrev MX12_takesSign : MI := (yX12_takesSign, cX12_takesSign, 3, (Option.some FieldType.boolean), [])
abbrev MX12_starts : MI := (yX12_starts, cX12_starts, 2, none, [])
abbrev MX12_ends : MI := (yX12_ends, cX12_ends, 1, (Option.some FieldType.int), [])
abbrev MX12_kindHere : MI := (yX12_kindHere, cX12_kindHere, 1, (Option.some FieldType.int), [])
abbrev MX12_otherHere : MI := (yX12_otherHere, cX12_otherHere, 5, (Option.some FieldType.int), [])
abbrev MX12_clause : MI := (yX12_clause, cX12_clause, 6, none, [])
abbrev MX12_city : MI := (yX12_city, cX12_city, 2, (Option.some FieldType.int), [])
abbrev MX12_lays : MI := (yX12_lays, cX12_lays, 5, none, [])
abbrev MX12_copies : MI := (yX12_copies, cX12_copies, 3, none, [])
abbrev MX12_stands : MI := (yX12_stands, cX12_stands, 2, none, [])
abbrev MX12_notes : MI := (yX12_notes, cX12_notes, 3, none, [])
abbrev MX12_opens : MI := (yX12_opens, cX12_opens, 1, (Option.some FieldType.boolean), [])
abbrev MX12_sum : MI := (yX12_sum, cX12_sum, 2, none, [])
abbrev MX12_product : MI := (yX12_product, cX12_product, 2, none, [])
abbrev MX12_knownHere : MI := (yX12_knownHere, cX12_knownHere, 1, (Option.some FieldType.int), [])
abbrev MX12_one : MI := (yX12_one, cX12_one, 3, none, [])
abbrev MX12_law : MI := (yX12_law, cX12_law, 2, (Option.some FieldType.int), [])
abbrev MX12_by : MI := (yX12_by, cX12_by, 3, (Option.some FieldType.int), [])
abbrev MX12_byLaw : MI := (yX12_byLaw, cX12_byLaw, 3, (Option.some FieldType.int), [])
abbrev MX12_stepHere : MI := (yX12_stepHere, cX12_stepHere, 1, (Option.some FieldType.int), [])
abbrev MX12_readsStep : MI := (yX12_readsStep, cX12_readsStep, 3, none, [])
abbrev MX12_post : MI := (yX12_post, cX12_post, 6, (Option.some FieldType.int), [])
abbrev MX12_fault : MI := (yX12_fault, cX12_fault, 1, (Option.some FieldType.int), [])
abbrev MX12_mateOf : MI := (yX12_mateOf, cX12_mateOf, 2, (Option.some FieldType.int), [])
abbrev MX12_lengthOf : MI := (yX12_lengthOf, cX12_lengthOf, 2, (Option.some FieldType.int), [])
abbrev MX12_crossOf : MI := (yX12_crossOf, cX12_crossOf, 5, (Option.some FieldType.int), [])
abbrev MX12_bannsOf : MI := (yX12_bannsOf, cX12_bannsOf, 4, (Option.some FieldType.int), [])
abbrev MX12_marries : MI := (yX12_marries, cX12_marries, 3, none, [])
abbrev MX12_parts : MI := (yX12_parts, cX12_parts, 6, none, [])
abbrev MX12_repaves : MI := (yX12_repaves, cX12_repaves, 4, (Option.some FieldType.boolean), [])
abbrev MX12_quarrels : MI := (yX12_quarrels, cX12_quarrels, 3, (Option.some FieldType.boolean), [])
abbrev MX12_yearEnds : MI := (yX12_yearEnds, cX12_yearEnds, 3, (Option.some FieldType.boolean), [])
abbrev MX12_does : MI := (yX12_does, cX12_does, 5, (Option.some FieldType.boolean), [])
abbrev MX12_goes : MI := (yX12_goes, cX12_goes, 5, none, [])
abbrev MX12_work : MI := (yX12_work, cX12_work, 2, (Option.some FieldType.int), [])
abbrev MX12_undo : MI := (yX12_undo, cX12_undo, 1, (Option.some FieldType.int), [])
abbrev MX12_couplesIn : MI := (yX12_couplesIn, cX12_couplesIn, 4, (Option.some FieldType.int), [])
abbrev MX12_sumOf : MI := (yX12_sumOf, cX12_sumOf, 5, (Option.some FieldType.int), [])
abbrev MX12_told : MI := (yX12_told, cX12_told, 2, (Option.some FieldType.int), [])
abbrev MX12_isStreet : MI := (yX12_isStreet, cX12_isStreet, 2, (Option.some FieldType.boolean), [])
abbrev MX12_isCorner : MI := (yX12_isCorner, cX12_isCorner, 2, (Option.some FieldType.boolean), [])
abbrev MX12_street : MI := (yX12_street, cX12_street, 3, (Option.some FieldType.int), [])
abbrev MX12_likes : MI := (yX12_likes, cX12_likes, 3, (Option.some FieldType.int), [])
abbrev MX12_banns : MI := (yX12_banns, cX12_banns, 3, (Option.some FieldType.int), [])
abbrev MX12_houseOf : MI := (yX12_houseOf, cX12_houseOf, 5, (Option.some FieldType.int), [])
abbrev MX12_howNow : MI := (yX12_howNow, cX12_howNow, 2, (Option.some FieldType.int), [])
abbrev MX12_letterTo : MI := (yX12_letterTo, cX12_letterTo, 5, (Option.some FieldType.int), [])
abbrev MX12_numberBy : MI := (yX12_numberBy, cX12_numberBy, 2, (Option.some FieldType.int), [])
abbrev MX12_number : MI := (yX12_number, cX12_number, 3, (Option.some FieldType.int), [])
abbrev MX12_letter : MI := (yX12_letter, cX12_letter, 3, (Option.some FieldType.int), [])
abbrev MX12_lastOf : MI := (yX12_lastOf, cX12_lastOf, 4, (Option.some FieldType.int), [])
abbrev MX12_last : MI := (yX12_last, cX12_last, 2, (Option.some FieldType.int), [])
abbrev MX12_missing : MI := (yX12_missing, cX12_missing, 4, (Option.some FieldType.int), [])
abbrev MX12_isFree : MI := (yX12_isFree, cX12_isFree, 2, (Option.some FieldType.boolean), [])
abbrev MX12_heat : MI := (yX12_heat, cX12_heat, 3, (Option.some FieldType.int), [])
abbrev MX12_isTempted : MI := (yX12_isTempted, cX12_isTempted, 4, (Option.some FieldType.boolean), [])
abbrev MX12_isStable : MI := (yX12_isStable, cX12_isStable, 3, (Option.some FieldType.boolean), [])
abbrev MX12_matches : MI := (yX12_matches, cX12_matches, 5, none, [])
abbrev MX12_laysMatches : MI := (yX12_laysMatches, cX12_laysMatches, 2, none, [])
abbrev MX12_stable : MI := (yX12_stable, cX12_stable, 1, (Option.some FieldType.int), [])
abbrev MX12_stableFor : MI := (yX12_stableFor, cX12_stableFor, 2, (Option.some FieldType.int), [])
abbrev MX12_best : MI := (yX12_best, cX12_best, 1, (Option.some FieldType.int), [])
abbrev MX12_bestFor : MI := (yX12_bestFor, cX12_bestFor, 2, (Option.some FieldType.int), [])
abbrev MX12_tempted : MI := (yX12_tempted, cX12_tempted, 3, (Option.some FieldType.int), [])
abbrev MX12_laysWays : MI := (yX12_laysWays, cX12_laysWays, 6, none, [])
abbrev MX12_way : MI := (yX12_way, cX12_way, 3, (Option.some FieldType.int), [])
abbrev MX12_reach : MI := (yX12_reach, cX12_reach, 4, (Option.some FieldType.int), [])
abbrev MX12_round : MI := (yX12_round, cX12_round, 7, (Option.some FieldType.int), [])
abbrev MX12_walksOn : MI := (yX12_walksOn, cX12_walksOn, 10, none, [])
abbrev MX12_bridges : MI := (yX12_bridges, cX12_bridges, 5, (Option.some FieldType.int), [])
abbrev MX12_worthOf : MI := (yX12_worthOf, cX12_worthOf, 5, (Option.some FieldType.int), [])
abbrev MX12_fair : MI := (yX12_fair, cX12_fair, 6, (Option.some FieldType.int), [])
abbrev MX12_even : MI := (yX12_even, cX12_even, 4, (Option.some FieldType.int), [])
abbrev MX12_isPosted : MI := (yX12_isPosted, cX12_isPosted, 4, (Option.some FieldType.boolean), [])
abbrev MX12_matesOf : MI := (yX12_matesOf, cX12_matesOf, 5, (Option.some FieldType.int), [])
abbrev MX12_ones : MI := (yX12_ones, cX12_ones, 3, (Option.some FieldType.int), [])
abbrev MX12_mates : MI := (yX12_mates, cX12_mates, 3, (Option.some FieldType.int), [])
abbrev MX12_look : MI := (yX12_look, cX12_look, 9, (Option.some FieldType.int), [])
abbrev MX12_right : MI := (yX12_right, cX12_right, 3, (Option.some FieldType.int), [])
abbrev MX12_laneX : MI := (yX12_laneX, cX12_laneX, 2, (Option.some FieldType.int), [])
abbrev MX12_laneIn : MI := (yX12_laneIn, cX12_laneIn, 2, (Option.some FieldType.int), [])
abbrev MX12_lane : MI := (yX12_lane, cX12_lane, 1, (Option.some FieldType.int), [])
abbrev MX12_stop : MI := (yX12_stop, cX12_stop, 7, (Option.some FieldType.int), [])
abbrev MX12_getsBy : MI := (yX12_getsBy, cX12_getsBy, 3, (Option.some FieldType.int), [])
abbrev MX12_isBid : MI := (yX12_isBid, cX12_isBid, 5, (Option.some FieldType.boolean), [])
abbrev MX12_suitors : MI := (yX12_suitors, cX12_suitors, 9, (Option.some FieldType.int), [])
abbrev MX12_gets : MI := (yX12_gets, cX12_gets, 4, (Option.some FieldType.int), [])
abbrev MX12_ahead : MI := (yX12_ahead, cX12_ahead, 5, (Option.some FieldType.int), [])
abbrev MX12_draw : MI := (yX12_draw, cX12_draw, 2, (Option.some FieldType.int), [])
abbrev MX12_centuriesBy : MI := (yX12_centuriesBy, cX12_centuriesBy, 5, none, [])
abbrev MX12_centuries : MI := (yX12_centuries, cX12_centuries, 5, (Option.some FieldType.int), [])
abbrev MX12_span : MI := (yX12_span, cX12_span, 12, (Option.some FieldType.int), [])
abbrev MX12_puts : MI := (yX12_puts, cX12_puts, 4, (Option.some FieldType.int), [])
abbrev MX12_putsAll : MI := (yX12_putsAll, cX12_putsAll, 5, none, [])
abbrev MX12_image : MI := (yX12_image, cX12_image, 1, (Option.some FieldType.int), [])
abbrev MX12_restore : MI := (yX12_restore, cX12_restore, 1, (Option.some FieldType.int), [])
abbrev MX12_status : MI := (yX12_status, cX12_status, 2, (Option.some FieldType.int), [])
abbrev MX12_count : MI := (yX12_count, cX12_count, 2, (Option.some FieldType.int), [])
abbrev MX0_init : MI := (yX0_init, cX0_init, 1, none, [])
abbrev MX0_clear : MI := (yX0_clear, cX0_clear, 1, none, [])
abbrev MX0_readAll : MI := (yX0_readAll, cX0_readAll, 3, (Option.some FieldType.boolean), [])
abbrev MX0_readClause : MI := (yX0_readClause, cX0_readClause, 5, (Option.some FieldType.boolean), [])
abbrev MX0_kindOf : MI := (yX0_kindOf, cX0_kindOf, 1, (Option.some FieldType.int), [])
abbrev MX0_isFull : MI := (yX0_isFull, cX0_isFull, 2, (Option.some FieldType.boolean), [])
abbrev MX0_readCorner : MI := (yX0_readCorner, cX0_readCorner, 4, (Option.some FieldType.boolean), [])
abbrev MX0_readStreet : MI := (yX0_readStreet, cX0_readStreet, 6, (Option.some FieldType.boolean), [])
abbrev MX0_readLikes : MI := (yX0_readLikes, cX0_readLikes, 5, (Option.some FieldType.boolean), [])
abbrev MX0_readNever : MI := (yX0_readNever, cX0_readNever, 4, (Option.some FieldType.boolean), [])
abbrev MX0_readGood : MI := (yX0_readGood, cX0_readGood, 4, (Option.some FieldType.boolean), [])
abbrev MX0_readLane : MI := (yX0_readLane, cX0_readLane, 6, (Option.some FieldType.boolean), [])
abbrev MX0_readRiver : MI := (yX0_readRiver, cX0_readRiver, 3, (Option.some FieldType.boolean), [])
abbrev MX0_another : MI := (yX0_another, cX0_another, 4, (Option.some FieldType.int), [])
abbrev MX0_addCorner : MI := (yX0_addCorner, cX0_addCorner, 3, none, [])
abbrev MX0_addStreet : MI := (yX0_addStreet, cX0_addStreet, 5, none, [])
abbrev MX0_addGood : MI := (yX0_addGood, cX0_addGood, 3, none, [])
abbrev MX0_setLiking : MI := (yX0_setLiking, cX0_setLiking, 4, none, [])
abbrev MX0_forbid : MI := (yX0_forbid, cX0_forbid, 3, none, [])
abbrev MX0_setLane : MI := (yX0_setLane, cX0_setLane, 5, none, [])
abbrev MX0_startOf : MI := (yX0_startOf, cX0_startOf, 2, (Option.some FieldType.int), [])
abbrev MX0_endOf : MI := (yX0_endOf, cX0_endOf, 2, (Option.some FieldType.int), [])
abbrev MX0_housesOf : MI := (yX0_housesOf, cX0_housesOf, 2, (Option.some FieldType.int), [])
abbrev MX0_firstTreesOf : MI := (yX0_firstTreesOf, cX0_firstTreesOf, 2, (Option.some FieldType.int), [])
abbrev MX0_lengthOf : MI := (yX0_lengthOf, cX0_lengthOf, 2, (Option.some FieldType.int), [])
abbrev MX0_liking : MI := (yX0_liking, cX0_liking, 3, (Option.some FieldType.int), [])
abbrev MX0_isNever : MI := (yX0_isNever, cX0_isNever, 3, (Option.some FieldType.boolean), [])
abbrev MX0_commonCorners : MI := (yX0_commonCorners, cX0_commonCorners, 7, (Option.some FieldType.int), [])
abbrev MX0_worthToOne : MI := (yX0_worthToOne, cX0_worthToOne, 2, (Option.some FieldType.int), [])
abbrev MX0_worthToOther : MI := (yX0_worthToOther, cX0_worthToOther, 2, (Option.some FieldType.int), [])
abbrev MX0_worth : MI := (yX0_worth, cX0_worth, 5, (Option.some FieldType.int), [])
abbrev MX0_laneX : MI := (yX0_laneX, cX0_laneX, 2, (Option.some FieldType.int), [])
abbrev MX0_laneY : MI := (yX0_laneY, cX0_laneY, 2, (Option.some FieldType.int), [])
abbrev MX0_cornersAt : MI := (yX0_cornersAt, cX0_cornersAt, 5, (Option.some FieldType.int), [])
abbrev MX1_init : MI := (yX1_init, cX1_init, 1, none, [])
abbrev MX1_gain : MI := (yX1_gain, cX1_gain, 3, (Option.some FieldType.int), [])
abbrev MX1_findRests : MI := (yX1_findRests, cX1_findRests, 6, none, [])
abbrev MX1_bestAgainst : MI := (yX1_bestAgainst, cX1_bestAgainst, 5, (Option.some FieldType.int), [])
abbrev MX1_weigh : MI := (yX1_weigh, cX1_weigh, 5, none, [])
abbrev MX2_init : MI := (yX2_init, cX2_init, 1, none, [])
abbrev MX2_clear : MI := (yX2_clear, cX2_clear, 1, none, [])
abbrev MX2_readAll : MI := (yX2_readAll, cX2_readAll, 2, (Option.some FieldType.boolean), [])
abbrev MX2_readSum : MI := (yX2_readSum, cX2_readSum, 5, (Option.some FieldType.boolean), [])
abbrev MX2_readProduct : MI := (yX2_readProduct, cX2_readProduct, 5, (Option.some FieldType.boolean), [])
abbrev MX2_readUnit : MI := (yX2_readUnit, cX2_readUnit, 4, (Option.some FieldType.boolean), [])
abbrev MX2_readPair : MI := (yX2_readPair, cX2_readPair, 4, (Option.some FieldType.boolean), [])
abbrev MX2_mayOpen : MI := (yX2_mayOpen, cX2_mayOpen, 2, (Option.some FieldType.boolean), [])
abbrev MX2_wordOf : MI := (yX2_wordOf, cX2_wordOf, 1, (Option.some FieldType.int), [])
abbrev MX2_append : MI := (yX2_append, cX2_append, 2, (Option.some FieldType.boolean), [])
abbrev MX2_hindrance : MI := (yX2_hindrance, cX2_hindrance, 5, (Option.some FieldType.int), [])
abbrev MX2_value : MI := (yX2_value, cX2_value, 8, (Option.some FieldType.int), [])
abbrev MX2_joined : MI := (yX2_joined, cX2_joined, 3, (Option.some FieldType.int), [])
abbrev MX2_fact : MI := (yX2_fact, cX2_fact, 5, (Option.some FieldType.int), [])
abbrev MX3_init : MI := (yX3_init, cX3_init, 1, none, [])
abbrev MX3_clear : MI := (yX3_clear, cX3_clear, 1, none, [])
abbrev MX3_isFull : MI := (yX3_isFull, cX3_isFull, 1, (Option.some FieldType.boolean), [])
abbrev MX3_keepWork : MI := (yX3_keepWork, cX3_keepWork, 2, none, [])
abbrev MX3_takeWorkBack : MI := (yX3_takeWorkBack, cX3_takeWorkBack, 2, (Option.some FieldType.boolean), [])
abbrev MX3_keepImage : MI := (yX3_keepImage, cX3_keepImage, 3, (Option.some FieldType.boolean), [])
abbrev MX3_takeImageBack : MI := (yX3_takeImageBack, cX3_takeImageBack, 3, (Option.some FieldType.boolean), [])
abbrev MX4_init : MI := (yX4_init, cX4_init, 1, none, [])
abbrev MX4_numberOf : MI := (yX4_numberOf, cX4_numberOf, 2, (Option.some FieldType.int), [])
abbrev MX4_houseOf : MI := (yX4_houseOf, cX4_houseOf, 4, (Option.some FieldType.int), [])
abbrev MX4_begin : MI := (yX4_begin, cX4_begin, 3, none, [])
abbrev MX4_copyFrom : MI := (yX4_copyFrom, cX4_copyFrom, 2, none, [])
abbrev MX4_saveTo : MI := (yX4_saveTo, cX4_saveTo, 3, none, [])
abbrev MX4_loadFrom : MI := (yX4_loadFrom, cX4_loadFrom, 3, none, [])
abbrev MX4_mateOf : MI := (yX4_mateOf, cX4_mateOf, 2, (Option.some FieldType.int), [])
abbrev MX4_roleOf : MI := (yX4_roleOf, cX4_roleOf, 2, (Option.some FieldType.int), [])
abbrev MX4_yearsOf : MI := (yX4_yearsOf, cX4_yearsOf, 2, (Option.some FieldType.int), [])
abbrev MX4_treesOf : MI := (yX4_treesOf, cX4_treesOf, 2, (Option.some FieldType.int), [])
abbrev MX4_holesOf : MI := (yX4_holesOf, cX4_holesOf, 2, (Option.some FieldType.int), [])
abbrev MX4_yearNow : MI := (yX4_yearNow, cX4_yearNow, 1, (Option.some FieldType.int), [])
abbrev MX4_partedSoFar : MI := (yX4_partedSoFar, cX4_partedSoFar, 1, (Option.some FieldType.int), [])
abbrev MX4_couples : MI := (yX4_couples, cX4_couples, 3, (Option.some FieldType.int), [])
abbrev MX4_allTrees : MI := (yX4_allTrees, cX4_allTrees, 3, (Option.some FieldType.int), [])
abbrev MX4_allHoles : MI := (yX4_allHoles, cX4_allHoles, 3, (Option.some FieldType.int), [])
abbrev MX4_longestYears : MI := (yX4_longestYears, cX4_longestYears, 3, (Option.some FieldType.int), [])
abbrev MX4_wed : MI := (yX4_wed, cX4_wed, 3, (Option.some FieldType.boolean), [])
abbrev MX4_partFrom : MI := (yX4_partFrom, cX4_partFrom, 6, (Option.some FieldType.boolean), [])
abbrev MX4_plantIn : MI := (yX4_plantIn, cX4_plantIn, 3, (Option.some FieldType.boolean), [])
abbrev MX4_quarrelIn : MI := (yX4_quarrelIn, cX4_quarrelIn, 3, (Option.some FieldType.boolean), [])
abbrev MX4_repaveIn : MI := (yX4_repaveIn, cX4_repaveIn, 4, (Option.some FieldType.boolean), [])
abbrev MX4_turnYear : MI := (yX4_turnYear, cX4_turnYear, 2, (Option.some FieldType.boolean), [])
abbrev MX4_age : MI := (yX4_age, cX4_age, 4, none, [])
abbrev MX4_bind : MI := (yX4_bind, cX4_bind, 4, none, [])
abbrev MX4_setHoles : MI := (yX4_setHoles, cX4_setHoles, 3, none, [])
abbrev MX5_init : MI := (yX5_init, cX5_init, 1, none, [])
abbrev MX5_clear : MI := (yX5_clear, cX5_clear, 1, none, [])
abbrev MX5_readAll : MI := (yX5_readAll, cX5_readAll, 3, (Option.some FieldType.boolean), [])
abbrev MX5_readLine : MI := (yX5_readLine, cX5_readLine, 4, (Option.some FieldType.boolean), [])
abbrev MX5_has : MI := (yX5_has, cX5_has, 3, (Option.some FieldType.boolean), [])
abbrev MX5_fits : MI := (yX5_fits, cX5_fits, 3, (Option.some FieldType.boolean), [])
abbrev MX5_rightLines : MI := (yX5_rightLines, cX5_rightLines, 4, (Option.some FieldType.int), [])
abbrev MX5_leftAtWorst : MI := (yX5_leftAtWorst, cX5_leftAtWorst, 11, (Option.some FieldType.int), [])
abbrev MX6_init : MI := (yX6_init, cX6_init, 1, none, [])
abbrev MX6_firstStableMate : MI := (yX6_firstStableMate, cX6_firstStableMate, 2, (Option.some FieldType.int), [])
abbrev MX6_warmestMate : MI := (yX6_warmestMate, cX6_warmestMate, 2, (Option.some FieldType.int), [])
abbrev MX6_findAll : MI := (yX6_findAll, cX6_findAll, 5, none, [])
abbrev MX6_mayMarry : MI := (yX6_mayMarry, cX6_mayMarry, 6, (Option.some FieldType.int), [])
abbrev MX6_match : MI := (yX6_match, cX6_match, 4, none, [])
abbrev MX6_isAllowed : MI := (yX6_isAllowed, cX6_isAllowed, 3, (Option.some FieldType.boolean), [])
abbrev MX6_judge : MI := (yX6_judge, cX6_judge, 3, none, [])
abbrev MX6_warmth : MI := (yX6_warmth, cX6_warmth, 4, (Option.some FieldType.int), [])
abbrev MX6_isStable : MI := (yX6_isStable, cX6_isStable, 4, (Option.some FieldType.boolean), [])
abbrev MX6_prefers : MI := (yX6_prefers, cX6_prefers, 4, (Option.some FieldType.boolean), [])
abbrev MX7_init : MI := (yX7_init, cX7_init, 1, none, [])
abbrev MX7_readAll : MI := (yX7_readAll, cX7_readAll, 4, (Option.some FieldType.boolean), [])
abbrev MX7_readStep : MI := (yX7_readStep, cX7_readStep, 7, (Option.some FieldType.boolean), [])
abbrev MX7_readSecond : MI := (yX7_readSecond, cX7_readSecond, 3, (Option.some FieldType.int), [])
abbrev MX7_readAgain : MI := (yX7_readAgain, cX7_readAgain, 7, (Option.some FieldType.boolean), [])
abbrev MX7_kindOf : MI := (yX7_kindOf, cX7_kindOf, 1, (Option.some FieldType.int), [])
abbrev MX7_append : MI := (yX7_append, cX7_append, 4, none, [])
abbrev MX7_perform : MI := (yX7_perform, cX7_perform, 11, none, [])
abbrev MX7_performStep : MI := (yX7_performStep, cX7_performStep, 7, (Option.some FieldType.boolean), [])
abbrev MX8_init : MI := (yX8_init, cX8_init, 1, none, [])
abbrev MX8_spread : MI := (yX8_spread, cX8_spread, 6, none, [])
abbrev MX8_shorten : MI := (yX8_shorten, cX8_shorten, 4, none, [])
abbrev MX8_stepsTo : MI := (yX8_stepsTo, cX8_stepsTo, 3, (Option.some FieldType.int), [])
abbrev MX8_shortestRound : MI := (yX8_shortestRound, cX8_shortestRound, 3, (Option.some FieldType.int), [])
abbrev MX8_walk : MI := (yX8_walk, cX8_walk, 10, none, [])
abbrev MX8_isOnePiece : MI := (yX8_isOnePiece, cX8_isOnePiece, 7, (Option.some FieldType.boolean), [])
abbrev MX9_at : MI := (yX9_at, cX9_at, 2, (Option.some FieldType.int), [])
abbrev MX9_put : MI := (yX9_put, cX9_put, 3, none, [])
abbrev MX9_fill : MI := (yX9_fill, cX9_fill, 3, none, [])
abbrev MX9_copy : MI := (yX9_copy, cX9_copy, 6, none, [])
abbrev MX10_init : MI := (yX10_init, cX10_init, 2, none, [])
abbrev MX10_open : MI := (yX10_open, cX10_open, 2, none, [])
abbrev MX10_answer : MI := (yX10_answer, cX10_answer, 1, (Option.some FieldType.int), [])
abbrev MX10_mark : MI := (yX10_mark, cX10_mark, 2, (Option.some FieldType.boolean), [])
abbrev MX10_atEnd : MI := (yX10_atEnd, cX10_atEnd, 1, (Option.some FieldType.boolean), [])
abbrev MX10_sees : MI := (yX10_sees, cX10_sees, 2, (Option.some FieldType.boolean), [])
abbrev MX10_seesDigit : MI := (yX10_seesDigit, cX10_seesDigit, 1, (Option.some FieldType.boolean), [])
abbrev MX10_take : MI := (yX10_take, cX10_take, 2, (Option.some FieldType.boolean), [])
abbrev MX10_readNumber : MI := (yX10_readNumber, cX10_readNumber, 4, (Option.some FieldType.int), [])
abbrev MX10_readWord : MI := (yX10_readWord, cX10_readWord, 1, none, [])
abbrev MX10_wordIs : MI := (yX10_wordIs, cX10_wordIs, 3, (Option.some FieldType.boolean), [])
abbrev MX10_skipBlanks : MI := (yX10_skipBlanks, cX10_skipBlanks, 1, none, [])
abbrev MX10_byteAt : MI := (yX10_byteAt, cX10_byteAt, 2, (Option.some FieldType.int), [])
abbrev MX10_isDigit : MI := (yX10_isDigit, cX10_isDigit, 1, (Option.some FieldType.boolean), [])
abbrev MX10_isLetter : MI := (yX10_isLetter, cX10_isLetter, 1, (Option.some FieldType.boolean), [])
abbrev ML_city : MI := (yL_city, cL_city, 4, (Option.some FieldType.int), [(0, 9, 12, 13)])
abbrev ML_law : MI := (yL_law, cL_law, 4, (Option.some FieldType.int), [(0, 9, 12, 13)])
abbrev ML_work : MI := (yL_work, cL_work, 4, (Option.some FieldType.int), [(0, 9, 12, 13)])
abbrev ML_post : MI := (yL_post, cL_post, 4, (Option.some FieldType.int), [(0, 9, 12, 13)])
abbrev ML_told : MI := (yL_told, cL_told, 4, (Option.some FieldType.int), [(0, 9, 12, 13)])
abbrev ML_street : MI := (yL_street, cL_street, 5, (Option.some FieldType.int), [(0, 10, 13, 31), (0, 10, 17, 13)])
abbrev ML_likes : MI := (yL_likes, cL_likes, 5, (Option.some FieldType.int), [(0, 10, 13, 31), (0, 10, 17, 13)])
abbrev ML_banns : MI := (yL_banns, cL_banns, 5, (Option.some FieldType.int), [(0, 10, 13, 31)])
abbrev ML_number : MI := (yL_number, cL_number, 5, (Option.some FieldType.int), [(0, 10, 13, 42), (0, 10, 17, 31)])
abbrev ML_letter : MI := (yL_letter, cL_letter, 5, (Option.some FieldType.int), [(0, 10, 13, 31), (0, 10, 17, 13)])
abbrev ML_last : MI := (yL_last, cL_last, 4, (Option.some FieldType.int), [(0, 9, 12, 31)])
abbrev ML_missing : MI := (yL_missing, cL_missing, 4, (Option.some FieldType.int), [(0, 9, 12, 31)])
abbrev ML_stableFor : MI := (yL_stableFor, cL_stableFor, 4, (Option.some FieldType.int), [(0, 9, 12, 31)])
abbrev ML_bestFor : MI := (yL_bestFor, cL_bestFor, 4, (Option.some FieldType.int), [(0, 9, 12, 31)])
abbrev ML_way : MI := (yL_way, cL_way, 5, (Option.some FieldType.int), [(0, 10, 13, 31)])
abbrev ML_round : MI := (yL_round, cL_round, 4, (Option.some FieldType.int), [(0, 9, 12, 13)])
abbrev ML_reach : MI := (yL_reach, cL_reach, 4, (Option.some FieldType.int), [(0, 9, 12, 31)])
abbrev ML_bridges : MI := (yL_bridges, cL_bridges, 4, (Option.some FieldType.int), [(0, 9, 12, 13)])
abbrev ML_fair : MI := (yL_fair, cL_fair, 4, (Option.some FieldType.int), [(0, 9, 12, 13)])
abbrev ML_mates : MI := (yL_mates, cL_mates, 5, (Option.some FieldType.int), [(0, 10, 13, 31), (0, 10, 17, 13)])
abbrev ML_look : MI := (yL_look, cL_look, 5, (Option.some FieldType.int), [(0, 10, 13, 31), (0, 10, 17, 13)])
abbrev ML_right : MI := (yL_right, cL_right, 4, (Option.some FieldType.int), [(0, 9, 12, 31)])
abbrev ML_suitors : MI := (yL_suitors, cL_suitors, 7, (Option.some FieldType.int), [(0, 14, 17, 13)])
abbrev ML_gets : MI := (yL_gets, cL_gets, 6, (Option.some FieldType.int), [(0, 12, 15, 13)])
abbrev ML_ahead : MI := (yL_ahead, cL_ahead, 5, (Option.some FieldType.int), [(0, 10, 13, 13)])
abbrev ML_centuries : MI := (yL_centuries, cL_centuries, 7, (Option.some FieldType.int), [(0, 14, 17, 13)])
abbrev ML_span : MI := (yL_span, cL_span, 9, (Option.some FieldType.int), [(0, 18, 21, 13)])
abbrev ML_law_ : MI := (yL_law_, cL_law_, 7, (Option.some FieldType.boolean), [])
abbrev MJ6_bitCount_0f7a4 : MI := (yJ6_bitCount_0f7a4, cJ6_bitCount_0f7a4, 1, (Option.some FieldType.int), [])
abbrev MJ0_charAt_5068e : MI := (yJ0_charAt_5068e, cJ0_charAt_5068e, 2, (Option.some FieldType.char), [])
abbrev MJ0_checkIndex_df160 : MI := (yJ0_checkIndex_df160, cJ0_checkIndex_df160, 2, none, [])
abbrev MJ0_coder_7d493 : MI := (yJ0_coder_7d493, cJ0_coder_7d493, 1, (Option.some FieldType.byte), [])
abbrev MJ0_isLatin1_aae02 : MI := (yJ0_isLatin1_aae02, cJ0_isLatin1_aae02, 1, (Option.some FieldType.boolean), [])
abbrev MJ0_length_8abf5 : MI := (yJ0_length_8abf5, cJ0_length_8abf5, 1, (Option.some FieldType.int), [])
abbrev MJ1_charAt_3b067 : MI := (yJ1_charAt_3b067, cJ1_charAt_3b067, 2, (Option.some FieldType.char), [])
abbrev MJ3_checkIndex_8e157 : MI := (yJ3_checkIndex_8e157, cJ3_checkIndex_8e157, 3, (Option.some FieldType.int), [])
theorem inT1 {w : Cond} {i : Nat} (h : tables_1_1[i]? = some w) : w ∈ lw_tbl := List.mem_append_right _ (List.mem_append_left _ (List.mem_of_getElem? h))
theorem inT2 {w : Cond} {i : Nat} (h : tables_1_2[i]? = some w) : w ∈ lw_tbl := List.mem_append_right _ (List.mem_append_right _ (List.mem_append_left _ (List.mem_of_getElem? h)))
theorem inT3 {w : Cond} {i : Nat} (h : tables_1_3[i]? = some w) : w ∈ lw_tbl := List.mem_append_right _ (List.mem_append_right _ (List.mem_append_right _ (List.mem_append_left _ (List.mem_of_getElem? h))))
theorem inT4 {w : Cond} {i : Nat} (h : tables_1_4[i]? = some w) : w ∈ lw_tbl := List.mem_append_right _ (List.mem_append_right _ (List.mem_append_right _ (List.mem_append_right _ (List.mem_append_left _ (List.mem_of_getElem? h)))))
theorem inT5 {w : Cond} {i : Nat} (h : tables_1_5[i]? = some w) : w ∈ lw_tbl := List.mem_append_right _ (List.mem_append_right _ (List.mem_append_right _ (List.mem_append_right _ (List.mem_append_right _ (List.mem_append_left _ (List.mem_of_getElem? h))))))
theorem inT6 {w : Cond} {i : Nat} (h : tables_1_6[i]? = some w) : w ∈ lw_tbl := List.mem_append_right _ (List.mem_append_right _ (List.mem_append_right _ (List.mem_append_right _ (List.mem_append_right _ (List.mem_append_right _ (List.mem_append_left _ (List.mem_of_getElem? h)))))))
theorem inT7 {w : Cond} {i : Nat} (h : tables_1_7[i]? = some w) : w ∈ lw_tbl := List.mem_append_right _ (List.mem_append_right _ (List.mem_append_right _ (List.mem_append_right _ (List.mem_append_right _ (List.mem_append_right _ (List.mem_append_right _ (List.mem_append_left _ (List.mem_of_getElem? h))))))))
theorem inT8 {w : Cond} {i : Nat} (h : tables_1_8[i]? = some w) : w ∈ lw_tbl := List.mem_append_right _ (List.mem_append_right _ (List.mem_append_right _ (List.mem_append_right _ (List.mem_append_right _ (List.mem_append_right _ (List.mem_append_right _ (List.mem_append_right _ (List.mem_append_left _ (List.mem_of_getElem? h)))))))))
theorem inT9 {w : Cond} {i : Nat} (h : tables_1_9[i]? = some w) : w ∈ lw_tbl := List.mem_append_right _ (List.mem_append_right _ (List.mem_append_right _ (List.mem_append_right _ (List.mem_append_right _ (List.mem_append_right _ (List.mem_append_right _ (List.mem_append_right _ (List.mem_append_right _ (List.mem_of_getElem? h)))))))))
theorem inT0 {w : Cond} {i : Nat} (h : (k2_sels lw_privs)[i]? = some w) : w ∈ lw_tbl := List.mem_append_left _ (List.mem_of_getElem? h)
theorem inGw {w : Cond} (h : w ∈ lw_tbl) (g : goodWord w = true) : w ∈ wsG := List.mem_filter.mpr ⟨h, g⟩
theorem inNw {w : Cond} (h : w ∈ lw_tbl) (g : goodNw w = true) : w ∈ wsN := List.mem_filter.mpr ⟨h, g⟩
theorem q_0 : (Cond.selects "MarriedStreets" ⟨"MarriedStreets", "tapeFour", "(I)V"⟩ ⟨"MarriedStreets", "tapeFour", "(I)V"⟩) ∈ wsG := inGw (inT0 (i := 0) rfl) rfl
theorem q_1 : (Cond.selects "MarriedStreets$Law" ⟨"MarriedStreets$Law", "value", "(LMarriedStreets$City;LMarriedStreets$Life;II)I"⟩ ⟨"MarriedStreets$Law", "value", "(LMarriedStreets$City;LMarriedStreets$Life;II)I"⟩) ∈ wsG := inGw (inT0 (i := 1) rfl) rfl
theorem q_2 : (Cond.selects "MarriedStreets$Matcher" ⟨"MarriedStreets$Matcher", "match", "(LMarriedStreets$City;I)V"⟩ ⟨"MarriedStreets$Matcher", "match", "(LMarriedStreets$City;I)V"⟩) ∈ wsG := inGw (inT0 (i := 2) rfl) rfl
theorem q_3 : (Cond.selects "MarriedStreets$Matcher" ⟨"MarriedStreets$Matcher", "judge", "(LMarriedStreets$City;)V"⟩ ⟨"MarriedStreets$Matcher", "judge", "(LMarriedStreets$City;)V"⟩) ∈ wsG := inGw (inT0 (i := 3) rfl) rfl
theorem q_4 : (Cond.selects "MarriedStreets$Matcher" ⟨"MarriedStreets$Matcher", "warmth", "(LMarriedStreets$City;)I"⟩ ⟨"MarriedStreets$Matcher", "warmth", "(LMarriedStreets$City;)I"⟩) ∈ wsG := inGw (inT0 (i := 4) rfl) rfl
theorem q_5 : (Cond.selects "MarriedStreets$Matcher" ⟨"MarriedStreets$Matcher", "isStable", "(LMarriedStreets$City;)Z"⟩ ⟨"MarriedStreets$Matcher", "isStable", "(LMarriedStreets$City;)Z"⟩) ∈ wsG := inGw (inT0 (i := 5) rfl) rfl
theorem q_6 : (Cond.selects "MarriedStreets$Matcher" ⟨"MarriedStreets$Matcher", "isAllowed", "(II)Z"⟩ ⟨"MarriedStreets$Matcher", "isAllowed", "(II)Z"⟩) ∈ wsG := inGw (inT0 (i := 6) rfl) rfl
theorem q_7 : (Cond.selects "MarriedStreets$Matcher" ⟨"MarriedStreets$Matcher", "prefers", "(LMarriedStreets$City;II)Z"⟩ ⟨"MarriedStreets$Matcher", "prefers", "(LMarriedStreets$City;II)Z"⟩) ∈ wsG := inGw (inT0 (i := 7) rfl) rfl
theorem q_8 : (Cond.selects "MarriedStreets" ⟨"MarriedStreets", "wouldLeave", "(II)Z"⟩ ⟨"MarriedStreets", "wouldLeave", "(II)Z"⟩) ∈ wsG := inGw (inT0 (i := 8) rfl) rfl
theorem q_9 : (Cond.selects "MarriedStreets$City" ⟨"MarriedStreets$City", "worth", "([II)I"⟩ ⟨"MarriedStreets$City", "worth", "([II)I"⟩) ∈ wsG := inGw (inT0 (i := 9) rfl) rfl
theorem q_10 : (Cond.selects "MarriedStreets" ⟨"MarriedStreets", "openText", "(II)V"⟩ ⟨"MarriedStreets", "openText", "(II)V"⟩) ∈ wsG := inGw (inT0 (i := 10) rfl) rfl
theorem q_11 : (Cond.selects "MarriedStreets" ⟨"MarriedStreets", "need", "(Z)V"⟩ ⟨"MarriedStreets", "need", "(Z)V"⟩) ∈ wsG := inGw (inT0 (i := 11) rfl) rfl
theorem q_13 : (Cond.selects "MarriedStreets$Text" ⟨"MarriedStreets$Text", "skipBlanks", "()V"⟩ ⟨"MarriedStreets$Text", "skipBlanks", "()V"⟩) ∈ wsG := inGw (inT0 (i := 13) rfl) rfl
theorem q_14 : (Cond.selects "MarriedStreets$City" ⟨"MarriedStreets$City", "readClause", "(LMarriedStreets$Text;I)Z"⟩ ⟨"MarriedStreets$City", "readClause", "(LMarriedStreets$Text;I)Z"⟩) ∈ wsG := inGw (inT0 (i := 14) rfl) rfl
theorem q_15 : (Cond.selects "MarriedStreets$Text" ⟨"MarriedStreets$Text", "byteAt", "(I)I"⟩ ⟨"MarriedStreets$Text", "byteAt", "(I)I"⟩) ∈ wsG := inGw (inT0 (i := 15) rfl) rfl
theorem q_16 : (Cond.selects "MarriedStreets$City" ⟨"MarriedStreets$City", "isFull", "(I)Z"⟩ ⟨"MarriedStreets$City", "isFull", "(I)Z"⟩) ∈ wsG := inGw (inT0 (i := 16) rfl) rfl
theorem q_17 : (Cond.selects "MarriedStreets$City" ⟨"MarriedStreets$City", "readCorner", "(LMarriedStreets$Text;)Z"⟩ ⟨"MarriedStreets$City", "readCorner", "(LMarriedStreets$Text;)Z"⟩) ∈ wsG := inGw (inT0 (i := 17) rfl) rfl
theorem q_18 : (Cond.selects "MarriedStreets$City" ⟨"MarriedStreets$City", "readStreet", "(LMarriedStreets$Text;)Z"⟩ ⟨"MarriedStreets$City", "readStreet", "(LMarriedStreets$Text;)Z"⟩) ∈ wsG := inGw (inT0 (i := 18) rfl) rfl
theorem q_19 : (Cond.selects "MarriedStreets$City" ⟨"MarriedStreets$City", "readLikes", "(LMarriedStreets$Text;)Z"⟩ ⟨"MarriedStreets$City", "readLikes", "(LMarriedStreets$Text;)Z"⟩) ∈ wsG := inGw (inT0 (i := 19) rfl) rfl
theorem q_20 : (Cond.selects "MarriedStreets$City" ⟨"MarriedStreets$City", "readNever", "(LMarriedStreets$Text;)Z"⟩ ⟨"MarriedStreets$City", "readNever", "(LMarriedStreets$Text;)Z"⟩) ∈ wsG := inGw (inT0 (i := 20) rfl) rfl
theorem q_21 : (Cond.selects "MarriedStreets$City" ⟨"MarriedStreets$City", "readGood", "(LMarriedStreets$Text;)Z"⟩ ⟨"MarriedStreets$City", "readGood", "(LMarriedStreets$Text;)Z"⟩) ∈ wsG := inGw (inT0 (i := 21) rfl) rfl
theorem q_22 : (Cond.selects "MarriedStreets$City" ⟨"MarriedStreets$City", "readLane", "(LMarriedStreets$Text;)Z"⟩ ⟨"MarriedStreets$City", "readLane", "(LMarriedStreets$Text;)Z"⟩) ∈ wsG := inGw (inT0 (i := 22) rfl) rfl
theorem q_23 : (Cond.selects "MarriedStreets$City" ⟨"MarriedStreets$City", "readRiver", "(LMarriedStreets$Text;)Z"⟩ ⟨"MarriedStreets$City", "readRiver", "(LMarriedStreets$Text;)Z"⟩) ∈ wsG := inGw (inT0 (i := 23) rfl) rfl
theorem q_24 : (Cond.selects "MarriedStreets$Law" ⟨"MarriedStreets$Law", "readSum", "(LMarriedStreets$Text;I)Z"⟩ ⟨"MarriedStreets$Law", "readSum", "(LMarriedStreets$Text;I)Z"⟩) ∈ wsG := inGw (inT0 (i := 24) rfl) rfl
theorem q_25 : (Cond.selects "MarriedStreets$Law" ⟨"MarriedStreets$Law", "readProduct", "(LMarriedStreets$Text;I)Z"⟩ ⟨"MarriedStreets$Law", "readProduct", "(LMarriedStreets$Text;I)Z"⟩) ∈ wsG := inGw (inT0 (i := 25) rfl) rfl
theorem q_26 : (Cond.selects "MarriedStreets$Law" ⟨"MarriedStreets$Law", "readUnit", "(LMarriedStreets$Text;I)Z"⟩ ⟨"MarriedStreets$Law", "readUnit", "(LMarriedStreets$Text;I)Z"⟩) ∈ wsG := inGw (inT0 (i := 26) rfl) rfl
theorem q_27 : (Cond.selects "MarriedStreets$Law" ⟨"MarriedStreets$Law", "append", "(I)Z"⟩ ⟨"MarriedStreets$Law", "append", "(I)Z"⟩) ∈ wsG := inGw (inT0 (i := 27) rfl) rfl
theorem q_28 : (Cond.selects "MarriedStreets$Law" ⟨"MarriedStreets$Law", "readPair", "(LMarriedStreets$Text;II)Z"⟩ ⟨"MarriedStreets$Law", "readPair", "(LMarriedStreets$Text;II)Z"⟩) ∈ wsG := inGw (inT0 (i := 28) rfl) rfl
theorem q_29 : (Cond.selects "MarriedStreets$Plan" ⟨"MarriedStreets$Plan", "readStep", "(LMarriedStreets$Text;II)Z"⟩ ⟨"MarriedStreets$Plan", "readStep", "(LMarriedStreets$Text;II)Z"⟩) ∈ wsG := inGw (inT0 (i := 29) rfl) rfl
theorem q_30 : (Cond.selects "MarriedStreets$Plan" ⟨"MarriedStreets$Plan", "readAgain", "(LMarriedStreets$Text;II)Z"⟩ ⟨"MarriedStreets$Plan", "readAgain", "(LMarriedStreets$Text;II)Z"⟩) ∈ wsG := inGw (inT0 (i := 30) rfl) rfl
theorem q_31 : (Cond.selects "MarriedStreets$Plan" ⟨"MarriedStreets$Plan", "append", "(III)V"⟩ ⟨"MarriedStreets$Plan", "append", "(III)V"⟩) ∈ wsG := inGw (inT0 (i := 31) rfl) rfl
theorem q_32 : (Cond.selects "MarriedStreets$Plan" ⟨"MarriedStreets$Plan", "perform", "(IIILMarriedStreets$Life;LMarriedStreets$City;LMarriedStreets$Law;)V"⟩ ⟨"MarriedStreets$Plan", "perform", "(IIILMarriedStreets$Life;LMarriedStreets$City;LMarriedStreets$Law;)V"⟩) ∈ wsG := inGw (inT0 (i := 32) rfl) rfl
theorem q_33 : (Cond.selects "MarriedStreets$Plan" ⟨"MarriedStreets$Plan", "performStep", "(ILMarriedStreets$Life;LMarriedStreets$City;LMarriedStreets$Law;)Z"⟩ ⟨"MarriedStreets$Plan", "performStep", "(ILMarriedStreets$Life;LMarriedStreets$City;LMarriedStreets$Law;)Z"⟩) ∈ wsG := inGw (inT0 (i := 33) rfl) rfl
theorem q_34 : (Cond.selects "MarriedStreets$Life" ⟨"MarriedStreets$Life", "bind", "(III)V"⟩ ⟨"MarriedStreets$Life", "bind", "(III)V"⟩) ∈ wsG := inGw (inT0 (i := 34) rfl) rfl
theorem q_35 : (Cond.selects "MarriedStreets$Life" ⟨"MarriedStreets$Life", "setHoles", "(II)V"⟩ ⟨"MarriedStreets$Life", "setHoles", "(II)V"⟩) ∈ wsG := inGw (inT0 (i := 35) rfl) rfl
theorem q_36 : (Cond.selects "MarriedStreets$Life" ⟨"MarriedStreets$Life", "age", "(II)V"⟩ ⟨"MarriedStreets$Life", "age", "(II)V"⟩) ∈ wsG := inGw (inT0 (i := 36) rfl) rfl
theorem q_37 : (Cond.selects "MarriedStreets$Mail" ⟨"MarriedStreets$Mail", "readLine", "(LMarriedStreets$Text;)Z"⟩ ⟨"MarriedStreets$Mail", "readLine", "(LMarriedStreets$Text;)Z"⟩) ∈ wsG := inGw (inT0 (i := 37) rfl) rfl
theorem q_38 : (Cond.selects "MarriedStreets" ⟨"MarriedStreets", "needStreet", "(I)V"⟩ ⟨"MarriedStreets", "needStreet", "(I)V"⟩) ∈ wsG := inGw (inT0 (i := 38) rfl) rfl
theorem q_39 : (Cond.selects "MarriedStreets" ⟨"MarriedStreets", "needElement", "(Z)V"⟩ ⟨"MarriedStreets", "needElement", "(Z)V"⟩) ∈ wsG := inGw (inT0 (i := 39) rfl) rfl
theorem q_40 : (Cond.selects "MarriedStreets" ⟨"MarriedStreets", "needHouse", "(Z)V"⟩ ⟨"MarriedStreets", "needHouse", "(Z)V"⟩) ∈ wsG := inGw (inT0 (i := 40) rfl) rfl
theorem q_41 : (Cond.selects "MarriedStreets" ⟨"MarriedStreets", "houseWith", "(II)I"⟩ ⟨"MarriedStreets", "houseWith", "(II)I"⟩) ∈ wsG := inGw (inT0 (i := 41) rfl) rfl
theorem q_42 : (Cond.selects "MarriedStreets" ⟨"MarriedStreets", "greatestNumber", "(I)I"⟩ ⟨"MarriedStreets", "greatestNumber", "(I)I"⟩) ∈ wsG := inGw (inT0 (i := 42) rfl) rfl
theorem q_43 : (Cond.selects "MarriedStreets" ⟨"MarriedStreets", "needCorner", "(I)V"⟩ ⟨"MarriedStreets", "needCorner", "(I)V"⟩) ∈ wsG := inGw (inT0 (i := 43) rfl) rfl
theorem q_44 : (Cond.selects "MarriedStreets$Roads" ⟨"MarriedStreets$Roads", "shorten", "(III)V"⟩ ⟨"MarriedStreets$Roads", "shorten", "(III)V"⟩) ∈ wsG := inGw (inT0 (i := 44) rfl) rfl
theorem q_45 : (Cond.selects "MarriedStreets$Roads" ⟨"MarriedStreets$Roads", "walk", "(LMarriedStreets$City;IIIII)V"⟩ ⟨"MarriedStreets$Roads", "walk", "(LMarriedStreets$City;IIIII)V"⟩) ∈ wsG := inGw (inT0 (i := 45) rfl) rfl
theorem q_46 : (Cond.selects "MarriedStreets" ⟨"MarriedStreets", "matesOf", "(II)I"⟩ ⟨"MarriedStreets", "matesOf", "(II)I"⟩) ∈ wsG := inGw (inT0 (i := 46) rfl) rfl
theorem q_47 : (Cond.selects "MarriedStreets" ⟨"MarriedStreets", "mayBeAlone", "(I)I"⟩ ⟨"MarriedStreets", "mayBeAlone", "(I)I"⟩) ∈ wsG := inGw (inT0 (i := 47) rfl) rfl
theorem q_48 : (Cond.selects "MarriedStreets$Dowries" ⟨"MarriedStreets$Dowries", "weigh", "(IIII)V"⟩ ⟨"MarriedStreets$Dowries", "weigh", "(IIII)V"⟩) ∈ wsG := inGw (inT0 (i := 48) rfl) rfl
theorem q_49 : (Cond.selects "MarriedStreets" ⟨"MarriedStreets", "needCenturies", "(II)V"⟩ ⟨"MarriedStreets", "needCenturies", "(II)V"⟩) ∈ wsG := inGw (inT0 (i := 49) rfl) rfl
theorem q_50 : (Cond.selects "MarriedStreets" ⟨"MarriedStreets", "dreamCenturies", "(III)I"⟩ ⟨"MarriedStreets", "dreamCenturies", "(III)I"⟩) ∈ wsG := inGw (inT0 (i := 50) rfl) rfl
theorem q_51 : (Cond.selects "MarriedStreetsModel" ⟨"MarriedStreetsModel", "tellsNothing", "()V"⟩ ⟨"MarriedStreetsModel", "tellsNothing", "()V"⟩) ∈ wsG := inGw (inT0 (i := 51) rfl) rfl
theorem q_52 : (Cond.selects "MarriedStreetsModel" ⟨"MarriedStreetsModel", "stands", "()V"⟩ ⟨"MarriedStreetsModel", "stands", "()V"⟩) ∈ wsG := inGw (inT0 (i := 52) rfl) rfl
theorem q_53 : (Cond.selects "MarriedStreetsModel" ⟨"MarriedStreetsModel", "bad", "(ZII)Z"⟩ ⟨"MarriedStreetsModel", "bad", "(ZII)Z"⟩) ∈ wsG := inGw (inT0 (i := 53) rfl) rfl
theorem q_54 : (Cond.selects "MarriedStreetsModel" ⟨"MarriedStreetsModel", "starts", "(I)V"⟩ ⟨"MarriedStreetsModel", "starts", "(I)V"⟩) ∈ wsG := inGw (inT0 (i := 54) rfl) rfl
theorem q_55 : (Cond.selects "MarriedStreetsModel" ⟨"MarriedStreetsModel", "blanks", "()V"⟩ ⟨"MarriedStreetsModel", "blanks", "()V"⟩) ∈ wsG := inGw (inT0 (i := 55) rfl) rfl
theorem q_56 : (Cond.selects "MarriedStreetsModel" ⟨"MarriedStreetsModel", "byteAt", "(I)I"⟩ ⟨"MarriedStreetsModel", "byteAt", "(I)I"⟩) ∈ wsG := inGw (inT0 (i := 56) rfl) rfl
theorem q_57 : (Cond.selects "MarriedStreetsModel" ⟨"MarriedStreetsModel", "clause", "()V"⟩ ⟨"MarriedStreetsModel", "clause", "()V"⟩) ∈ wsG := inGw (inT0 (i := 57) rfl) rfl
theorem q_58 : (Cond.selects "MarriedStreetsModel" ⟨"MarriedStreetsModel", "kindHere", "()I"⟩ ⟨"MarriedStreetsModel", "kindHere", "()I"⟩) ∈ wsG := inGw (inT0 (i := 58) rfl) rfl
theorem q_59 : (Cond.selects "MarriedStreetsModel" ⟨"MarriedStreetsModel", "isWord", "(IIIIIII)Z"⟩ ⟨"MarriedStreetsModel", "isWord", "(IIIIIII)Z"⟩) ∈ wsG := inGw (inT0 (i := 59) rfl) rfl
theorem q_60 : (Cond.selects "MarriedStreetsModel" ⟨"MarriedStreetsModel", "wordHere", "()J"⟩ ⟨"MarriedStreetsModel", "wordHere", "()J"⟩) ∈ wsG := inGw (inT0 (i := 60) rfl) rfl
theorem q_61 : (Cond.selects "MarriedStreetsModel" ⟨"MarriedStreetsModel", "wrong", "(II)V"⟩ ⟨"MarriedStreetsModel", "wrong", "(II)V"⟩) ∈ wsG := inGw (inT0 (i := 61) rfl) rfl
theorem q_62 : (Cond.selects "MarriedStreetsModel" ⟨"MarriedStreetsModel", "skipWord", "()V"⟩ ⟨"MarriedStreetsModel", "skipWord", "()V"⟩) ∈ wsG := inGw (inT0 (i := 62) rfl) rfl
theorem q_63 : (Cond.selects "MarriedStreetsModel" ⟨"MarriedStreetsModel", "numberHere", "(II)I"⟩ ⟨"MarriedStreetsModel", "numberHere", "(II)I"⟩) ∈ wsG := inGw (inT0 (i := 63) rfl) rfl
theorem q_64 : (Cond.selects "MarriedStreetsModel" ⟨"MarriedStreetsModel", "otherHere", "(II)I"⟩ ⟨"MarriedStreetsModel", "otherHere", "(II)I"⟩) ∈ wsG := inGw (inT0 (i := 64) rfl) rfl
theorem q_65 : (Cond.selects "MarriedStreetsModel" ⟨"MarriedStreetsModel", "sign", "(I)V"⟩ ⟨"MarriedStreetsModel", "sign", "(I)V"⟩) ∈ wsG := inGw (inT0 (i := 65) rfl) rfl
theorem q_66 : (Cond.selects "MarriedStreetsModel" ⟨"MarriedStreetsModel", "ends", "()I"⟩ ⟨"MarriedStreetsModel", "ends", "()I"⟩) ∈ wsG := inGw (inT0 (i := 66) rfl) rfl
theorem q_67 : (Cond.selects "MarriedStreetsModel" ⟨"MarriedStreetsModel", "sum", "()V"⟩ ⟨"MarriedStreetsModel", "sum", "()V"⟩) ∈ wsG := inGw (inT0 (i := 67) rfl) rfl
theorem q_68 : (Cond.selects "MarriedStreetsModel" ⟨"MarriedStreetsModel", "product", "()V"⟩ ⟨"MarriedStreetsModel", "product", "()V"⟩) ∈ wsG := inGw (inT0 (i := 68) rfl) rfl
theorem q_69 : (Cond.selects "MarriedStreetsModel" ⟨"MarriedStreetsModel", "one", "()V"⟩ ⟨"MarriedStreetsModel", "one", "()V"⟩) ∈ wsG := inGw (inT0 (i := 69) rfl) rfl
theorem q_70 : (Cond.selects "MarriedStreetsModel" ⟨"MarriedStreetsModel", "opens", "()Z"⟩ ⟨"MarriedStreetsModel", "opens", "()Z"⟩) ∈ wsG := inGw (inT0 (i := 70) rfl) rfl
theorem q_71 : (Cond.selects "MarriedStreetsModel" ⟨"MarriedStreetsModel", "notes", "(II)V"⟩ ⟨"MarriedStreetsModel", "notes", "(II)V"⟩) ∈ wsG := inGw (inT0 (i := 71) rfl) rfl
theorem q_72 : (Cond.selects "MarriedStreetsModel" ⟨"MarriedStreetsModel", "knownHere", "()I"⟩ ⟨"MarriedStreetsModel", "knownHere", "()I"⟩) ∈ wsG := inGw (inT0 (i := 72) rfl) rfl
theorem q_73 : (Cond.selects "MarriedStreetsModel" ⟨"MarriedStreetsModel", "takes", "(IIIIIII)Z"⟩ ⟨"MarriedStreetsModel", "takes", "(IIIIIII)Z"⟩) ∈ wsG := inGw (inT0 (i := 73) rfl) rfl
theorem q_74 : (Cond.selects "MarriedStreetsModel" ⟨"MarriedStreetsModel", "takesSign", "(I)Z"⟩ ⟨"MarriedStreetsModel", "takesSign", "(I)Z"⟩) ∈ wsG := inGw (inT0 (i := 74) rfl) rfl
theorem q_75 : (Cond.selects "MarriedStreetsModel" ⟨"MarriedStreetsModel", "readsStep", "()V"⟩ ⟨"MarriedStreetsModel", "readsStep", "()V"⟩) ∈ wsG := inGw (inT0 (i := 75) rfl) rfl
theorem q_76 : (Cond.selects "MarriedStreetsModel" ⟨"MarriedStreetsModel", "stepHere", "()I"⟩ ⟨"MarriedStreetsModel", "stepHere", "()I"⟩) ∈ wsG := inGw (inT0 (i := 76) rfl) rfl
theorem q_77 : (Cond.selects "MarriedStreetsModel" ⟨"MarriedStreetsModel", "goes", "(II)V"⟩ ⟨"MarriedStreetsModel", "goes", "(II)V"⟩) ∈ wsG := inGw (inT0 (i := 77) rfl) rfl
theorem q_78 : (Cond.selects "MarriedStreetsModel" ⟨"MarriedStreetsModel", "does", "([I[I)Z"⟩ ⟨"MarriedStreetsModel", "does", "([I[I)Z"⟩) ∈ wsG := inGw (inT0 (i := 78) rfl) rfl
theorem q_79 : (Cond.selects "MarriedStreetsModel" ⟨"MarriedStreetsModel", "bannsOf", "([III)I"⟩ ⟨"MarriedStreetsModel", "bannsOf", "([III)I"⟩) ∈ wsG := inGw (inT0 (i := 79) rfl) rfl
theorem q_80 : (Cond.selects "MarriedStreetsModel" ⟨"MarriedStreetsModel", "crossOf", "(II)I"⟩ ⟨"MarriedStreetsModel", "crossOf", "(II)I"⟩) ∈ wsG := inGw (inT0 (i := 80) rfl) rfl
theorem q_81 : (Cond.selects "MarriedStreetsModel" ⟨"MarriedStreetsModel", "lengthOf", "(I)I"⟩ ⟨"MarriedStreetsModel", "lengthOf", "(I)I"⟩) ∈ wsG := inGw (inT0 (i := 81) rfl) rfl
theorem q_82 : (Cond.selects "MarriedStreetsModel" ⟨"MarriedStreetsModel", "byLaw", "()I"⟩ ⟨"MarriedStreetsModel", "byLaw", "()I"⟩) ∈ wsG := inGw (inT0 (i := 82) rfl) rfl
theorem q_83 : (Cond.selects "MarriedStreetsModel" ⟨"MarriedStreetsModel", "yearEnds", "([I)Z"⟩ ⟨"MarriedStreetsModel", "yearEnds", "([I)Z"⟩) ∈ wsG := inGw (inT0 (i := 83) rfl) rfl
theorem q_84 : (Cond.selects "MarriedStreetsModel" ⟨"MarriedStreetsModel", "couplesIn", "([I)I"⟩ ⟨"MarriedStreetsModel", "couplesIn", "([I)I"⟩) ∈ wsG := inGw (inT0 (i := 84) rfl) rfl
theorem q_85 : (Cond.selects "MarriedStreetsModel" ⟨"MarriedStreetsModel", "sumOf", "([II)I"⟩ ⟨"MarriedStreetsModel", "sumOf", "([II)I"⟩) ∈ wsG := inGw (inT0 (i := 85) rfl) rfl
theorem q_86 : (Cond.selects "MarriedStreetsModel" ⟨"MarriedStreetsModel", "isStreet", "(I)Z"⟩ ⟨"MarriedStreetsModel", "isStreet", "(I)Z"⟩) ∈ wsG := inGw (inT0 (i := 86) rfl) rfl
theorem q_87 : (Cond.selects "MarriedStreetsModel" ⟨"MarriedStreetsModel", "howNow", "(I)I"⟩ ⟨"MarriedStreetsModel", "howNow", "(I)I"⟩) ∈ wsG := inGw (inT0 (i := 87) rfl) rfl
theorem q_88 : (Cond.selects "MarriedStreetsModel" ⟨"MarriedStreetsModel", "letterTo", "(II)I"⟩ ⟨"MarriedStreetsModel", "letterTo", "(II)I"⟩) ∈ wsG := inGw (inT0 (i := 88) rfl) rfl
theorem q_89 : (Cond.selects "MarriedStreetsModel" ⟨"MarriedStreetsModel", "houseOf", "(III)I"⟩ ⟨"MarriedStreetsModel", "houseOf", "(III)I"⟩) ∈ wsG := inGw (inT0 (i := 89) rfl) rfl
theorem q_90 : (Cond.selects "MarriedStreetsModel" ⟨"MarriedStreetsModel", "lastOf", "(I)I"⟩ ⟨"MarriedStreetsModel", "lastOf", "(I)I"⟩) ∈ wsG := inGw (inT0 (i := 90) rfl) rfl
theorem q_91 : (Cond.selects "MarriedStreetsModel" ⟨"MarriedStreetsModel", "laysMatches", "()V"⟩ ⟨"MarriedStreetsModel", "laysMatches", "()V"⟩) ∈ wsG := inGw (inT0 (i := 91) rfl) rfl
theorem q_92 : (Cond.selects "MarriedStreetsModel" ⟨"MarriedStreetsModel", "matches", "(II)V"⟩ ⟨"MarriedStreetsModel", "matches", "(II)V"⟩) ∈ wsG := inGw (inT0 (i := 92) rfl) rfl
theorem q_93 : (Cond.selects "MarriedStreetsModel" ⟨"MarriedStreetsModel", "heat", "([II)I"⟩ ⟨"MarriedStreetsModel", "heat", "([II)I"⟩) ∈ wsG := inGw (inT0 (i := 93) rfl) rfl
theorem q_94 : (Cond.selects "MarriedStreetsModel" ⟨"MarriedStreetsModel", "isStable", "()Z"⟩ ⟨"MarriedStreetsModel", "isStable", "()Z"⟩) ∈ wsG := inGw (inT0 (i := 94) rfl) rfl
theorem q_95 : (Cond.selects "MarriedStreetsModel" ⟨"MarriedStreetsModel", "isFree", "(I)Z"⟩ ⟨"MarriedStreetsModel", "isFree", "(I)Z"⟩) ∈ wsG := inGw (inT0 (i := 95) rfl) rfl
theorem q_96 : (Cond.selects "MarriedStreetsModel" ⟨"MarriedStreetsModel", "isTempted", "([III)Z"⟩ ⟨"MarriedStreetsModel", "isTempted", "([III)Z"⟩) ∈ wsG := inGw (inT0 (i := 96) rfl) rfl
theorem q_97 : (Cond.selects "MarriedStreetsModel" ⟨"MarriedStreetsModel", "isCorner", "(I)Z"⟩ ⟨"MarriedStreetsModel", "isCorner", "(I)Z"⟩) ∈ wsG := inGw (inT0 (i := 97) rfl) rfl
theorem q_98 : (Cond.selects "MarriedStreetsModel" ⟨"MarriedStreetsModel", "laysWays", "(I)V"⟩ ⟨"MarriedStreetsModel", "laysWays", "(I)V"⟩) ∈ wsG := inGw (inT0 (i := 98) rfl) rfl
theorem q_99 : (Cond.selects "MarriedStreetsModel" ⟨"MarriedStreetsModel", "walksOn", "(III)V"⟩ ⟨"MarriedStreetsModel", "walksOn", "(III)V"⟩) ∈ wsG := inGw (inT0 (i := 99) rfl) rfl
theorem q_100 : (Cond.selects "MarriedStreetsModel" ⟨"MarriedStreetsModel", "worthOf", "(II)I"⟩ ⟨"MarriedStreetsModel", "worthOf", "(II)I"⟩) ∈ wsG := inGw (inT0 (i := 100) rfl) rfl
theorem q_101 : (Cond.selects "MarriedStreetsModel" ⟨"MarriedStreetsModel", "matesOf", "(II)I"⟩ ⟨"MarriedStreetsModel", "matesOf", "(II)I"⟩) ∈ wsG := inGw (inT0 (i := 101) rfl) rfl
theorem q_102 : (Cond.selects "MarriedStreetsModel" ⟨"MarriedStreetsModel", "isPosted", "(II)Z"⟩ ⟨"MarriedStreetsModel", "isPosted", "(II)Z"⟩) ∈ wsG := inGw (inT0 (i := 102) rfl) rfl
theorem q_103 : (Cond.selects "MarriedStreetsModel" ⟨"MarriedStreetsModel", "laneIn", "()I"⟩ ⟨"MarriedStreetsModel", "laneIn", "()I"⟩) ∈ wsG := inGw (inT0 (i := 103) rfl) rfl
theorem q_104 : (Cond.selects "MarriedStreetsModel" ⟨"MarriedStreetsModel", "laneX", "(I)I"⟩ ⟨"MarriedStreetsModel", "laneX", "(I)I"⟩) ∈ wsG := inGw (inT0 (i := 104) rfl) rfl
theorem q_105 : (Cond.selects "MarriedStreetsModel" ⟨"MarriedStreetsModel", "centuriesBy", "(III)V"⟩ ⟨"MarriedStreetsModel", "centuriesBy", "(III)V"⟩) ∈ wsG := inGw (inT0 (i := 105) rfl) rfl
theorem q_106 : (Cond.selects "MarriedStreetsModel" ⟨"MarriedStreetsModel", "draw", "(I)I"⟩ ⟨"MarriedStreetsModel", "draw", "(I)I"⟩) ∈ wsG := inGw (inT0 (i := 106) rfl) rfl
theorem q_107 : (Cond.selects "MarriedStreetsModel" ⟨"MarriedStreetsModel", "putsAll", "([IZ)V"⟩ ⟨"MarriedStreetsModel", "putsAll", "([IZ)V"⟩) ∈ wsG := inGw (inT0 (i := 107) rfl) rfl
theorem q_108 : (Cond.selects "MarriedStreetsModel" ⟨"MarriedStreetsModel", "puts", "([IIZ)I"⟩ ⟨"MarriedStreetsModel", "puts", "([IIZ)I"⟩) ∈ wsG := inGw (inT0 (i := 108) rfl) rfl
theorem q_109 : (Cond.initialized "MarriedStreetsLaw") ∈ wsG := inGw (inT1 (i := 0) rfl) rfl
theorem q_110 : (Cond.initialized "MarriedStreets") ∈ wsG := inGw (inT1 (i := 1) rfl) rfl
theorem q_111 : (Cond.initialized "MarriedStreets$Text") ∈ wsG := inGw (inT1 (i := 2) rfl) rfl
theorem q_112 : (Cond.initialized "MarriedStreets$City") ∈ wsG := inGw (inT1 (i := 3) rfl) rfl
theorem q_113 : (Cond.initialized "MarriedStreets$Rows") ∈ wsG := inGw (inT1 (i := 4) rfl) rfl
theorem q_114 : (Cond.initialized "MarriedStreets$Law") ∈ wsG := inGw (inT1 (i := 5) rfl) rfl
theorem q_115 : (Cond.initialized "MarriedStreets$Mail") ∈ wsG := inGw (inT1 (i := 6) rfl) rfl
theorem q_116 : (Cond.initialized "MarriedStreets$Plan") ∈ wsG := inGw (inT1 (i := 7) rfl) rfl
theorem q_117 : (Cond.initialized "MarriedStreets$Life") ∈ wsG := inGw (inT1 (i := 8) rfl) rfl
theorem q_118 : (Cond.initialized "MarriedStreets$Ledger") ∈ wsG := inGw (inT1 (i := 9) rfl) rfl
theorem q_119 : (Cond.initialized "MarriedStreets$Matcher") ∈ wsG := inGw (inT1 (i := 10) rfl) rfl
theorem q_120 : (Cond.initialized "MarriedStreets$Roads") ∈ wsG := inGw (inT1 (i := 11) rfl) rfl
theorem q_121 : (Cond.initialized "MarriedStreets$Dowries") ∈ wsG := inGw (inT1 (i := 12) rfl) rfl
theorem q_122 : (Cond.initialized "MarriedStreetsModel") ∈ wsG := inGw (inT1 (i := 13) rfl) rfl
theorem q_126 : (Cond.initialized "java/lang/IllegalArgumentException") ∈ wsG := inGw (inT1 (i := 17) rfl) rfl
theorem q_127 : (Cond.initialized "java/lang/Math") ∈ wsG := inGw (inT1 (i := 18) rfl) rfl
theorem q_128 : (Cond.initialized "java/lang/String") ∈ wsG := inGw (inT1 (i := 19) rfl) rfl
theorem q_129 : (Cond.initialized "java/lang/StringLatin1") ∈ wsG := inGw (inT1 (i := 20) rfl) rfl
theorem q_130 : (Cond.initialized "jdk/internal/util/Preconditions") ∈ wsG := inGw (inT1 (i := 21) rfl) rfl
theorem q_132 : (Cond.initialized "java/util/NoSuchElementException") ∈ wsG := inGw (inT1 (i := 23) rfl) rfl
theorem q_133 : (Cond.initialized "java/lang/IndexOutOfBoundsException") ∈ wsG := inGw (inT1 (i := 24) rfl) rfl
theorem q_134 : (Cond.initialized "java/lang/Integer") ∈ wsG := inGw (inT1 (i := 25) rfl) rfl
theorem q_135 : (Cond.classLink "MarriedStreetsLaw" 8 "MarriedStreets") ∈ wsG := inGw (inT1 (i := 26) rfl) rfl
theorem q_136 : (Cond.instantiable "MarriedStreets" 20) ∈ wsG := inGw (inT1 (i := 27) rfl) rfl
theorem q_137 : (Cond.methodLink "MarriedStreetsLaw" 101 ⟨"MarriedStreets", "<init>", "()V"⟩) ∈ wsG := inGw (inT1 (i := 28) rfl) rfl
theorem q_138 : (Cond.instanceMethod ⟨"MarriedStreets", "<init>", "()V"⟩) ∈ wsG := inGw (inT1 (i := 29) rfl) rfl
theorem q_139 : (Cond.code ⟨"MarriedStreets", "<init>", "()V"⟩ prog_1_method_1_code 1 none) ∈ wsG := inGw (inT1 (i := 30) rfl) rfl
theorem q_140 : (Cond.methodLink "MarriedStreets" 1 ⟨"java/lang/Object", "<init>", "()V"⟩) ∈ wsG := inGw (inT1 (i := 31) rfl) rfl
theorem q_141 : (Cond.instanceMethod ⟨"java/lang/Object", "<init>", "()V"⟩) ∈ wsG := inGw (inT1 (i := 32) rfl) rfl
theorem q_142 : (Cond.code ⟨"java/lang/Object", "<init>", "()V"⟩ object_method_1_code 1 none) ∈ wsG := inGw (inT1 (i := 33) rfl) rfl
theorem q_143 : (Cond.classLink "MarriedStreets" 13 "MarriedStreets$Text") ∈ wsG := inGw (inT1 (i := 34) rfl) rfl
theorem q_144 : (Cond.instantiable "MarriedStreets$Text" 6) ∈ wsG := inGw (inT1 (i := 35) rfl) rfl
theorem q_145 : (Cond.methodLink "MarriedStreets" 15 ⟨"MarriedStreets$Text", "<init>", "([B)V"⟩) ∈ wsG := inGw (inT1 (i := 36) rfl) rfl
theorem q_146 : (Cond.instanceMethod ⟨"MarriedStreets$Text", "<init>", "([B)V"⟩) ∈ wsG := inGw (inT1 (i := 37) rfl) rfl
theorem q_147 : (Cond.code ⟨"MarriedStreets$Text", "<init>", "([B)V"⟩ prog_12_method_1_code 2 none) ∈ wsG := inGw (inT1 (i := 38) rfl) rfl
theorem q_148 : (Cond.methodLink "MarriedStreets$Text" 3 ⟨"java/lang/Object", "<init>", "()V"⟩) ∈ wsG := inGw (inT1 (i := 39) rfl) rfl
theorem q_149 : (Cond.fieldLink "MarriedStreets$Text" 9 "MarriedStreets$Text" "bytes" "[B") ∈ wsG := inGw (inT1 (i := 40) rfl) rfl
theorem q_150 : (Cond.fieldLink "MarriedStreets$Text" 25 "MarriedStreets$Text" "length" "I") ∈ wsG := inGw (inT1 (i := 41) rfl) rfl
theorem q_151 : (Cond.fieldLink "MarriedStreets$Text" 28 "MarriedStreets$Text" "place" "I") ∈ wsG := inGw (inT1 (i := 42) rfl) rfl
theorem q_152 : (Cond.fieldLink "MarriedStreets$Text" 31 "MarriedStreets$Text" "start" "I") ∈ wsG := inGw (inT1 (i := 43) rfl) rfl
theorem q_153 : (Cond.fieldLink "MarriedStreets$Text" 34 "MarriedStreets$Text" "kind" "I") ∈ wsG := inGw (inT1 (i := 44) rfl) rfl
theorem q_154 : (Cond.fieldLink "MarriedStreets$Text" 15 "MarriedStreets$Text" "faultAt" "I") ∈ wsG := inGw (inT1 (i := 45) rfl) rfl
theorem q_155 : (Cond.fieldLinkNest "MarriedStreets" 161 "MarriedStreets$Text" "faultAt" "I" "MarriedStreets") ∈ wsN := inNw (inT1 (i := 46) rfl) rfl
theorem q_169 : (Cond.arrayClass FieldType.byte) ∈ wsG := inGw (inT1 (i := 60) rfl) rfl
theorem q_170 : (Cond.classLink "MarriedStreets" 22 "MarriedStreets$City") ∈ wsG := inGw (inT1 (i := 61) rfl) rfl
theorem q_171 : (Cond.instantiable "MarriedStreets$City" 19) ∈ wsG := inGw (inT1 (i := 62) rfl) rfl
theorem q_172 : (Cond.methodLink "MarriedStreets" 24 ⟨"MarriedStreets$City", "<init>", "()V"⟩) ∈ wsG := inGw (inT1 (i := 63) rfl) rfl
theorem q_173 : (Cond.instanceMethod ⟨"MarriedStreets$City", "<init>", "()V"⟩) ∈ wsG := inGw (inT1 (i := 64) rfl) rfl
theorem q_174 : (Cond.code ⟨"MarriedStreets$City", "<init>", "()V"⟩ prog_2_method_1_code 1 none) ∈ wsG := inGw (inT1 (i := 65) rfl) rfl
theorem q_175 : (Cond.methodLink "MarriedStreets$City" 3 ⟨"java/lang/Object", "<init>", "()V"⟩) ∈ wsG := inGw (inT1 (i := 66) rfl) rfl
theorem q_176 : (Cond.methodLink "MarriedStreets$City" 45 ⟨"MarriedStreets$City", "clear", "()V"⟩) ∈ wsG := inGw (inT1 (i := 67) rfl) rfl
theorem q_177 : (Cond.instanceMethod ⟨"MarriedStreets$City", "clear", "()V"⟩) ∈ wsG := inGw (inT1 (i := 68) rfl) rfl
theorem q_178 : (Cond.selects "MarriedStreets$City" ⟨"MarriedStreets$City", "clear", "()V"⟩ ⟨"MarriedStreets$City", "clear", "()V"⟩) ∈ wsG := inGw (inT1 (i := 69) rfl) rfl
theorem q_179 : (Cond.code ⟨"MarriedStreets$City", "clear", "()V"⟩ prog_2_method_2_code 1 none) ∈ wsG := inGw (inT1 (i := 70) rfl) rfl
theorem q_180 : (Cond.methodLink "MarriedStreets$City" 61 ⟨"MarriedStreets$Rows", "fill", "([II)V"⟩) ∈ wsG := inGw (inT1 (i := 71) rfl) rfl
theorem q_181 : (Cond.static ⟨"MarriedStreets$Rows", "fill", "([II)V"⟩) ∈ wsG := inGw (inT1 (i := 72) rfl) rfl
theorem q_182 : (Cond.code ⟨"MarriedStreets$Rows", "fill", "([II)V"⟩ prog_11_method_4_code 3 none) ∈ wsG := inGw (inT1 (i := 73) rfl) rfl
theorem q_183 : (Cond.methodLink "MarriedStreets$City" 67 ⟨"MarriedStreets$City", "setLane", "(IIII)V"⟩) ∈ wsG := inGw (inT1 (i := 74) rfl) rfl
theorem q_184 : (Cond.instanceMethod ⟨"MarriedStreets$City", "setLane", "(IIII)V"⟩) ∈ wsG := inGw (inT1 (i := 75) rfl) rfl
theorem q_185 : (Cond.selects "MarriedStreets$City" ⟨"MarriedStreets$City", "setLane", "(IIII)V"⟩ ⟨"MarriedStreets$City", "setLane", "(IIII)V"⟩) ∈ wsG := inGw (inT1 (i := 76) rfl) rfl
theorem q_186 : (Cond.code ⟨"MarriedStreets$City", "setLane", "(IIII)V"⟩ prog_2_method_20_code 5 none) ∈ wsG := inGw (inT1 (i := 77) rfl) rfl
theorem q_187 : (Cond.fieldLink "MarriedStreets$City" 48 "MarriedStreets$City" "corners" "I") ∈ wsG := inGw (inT1 (i := 78) rfl) rfl
theorem q_188 : (Cond.fieldLinkNest "MarriedStreets$Roads" 28 "MarriedStreets$City" "corners" "I" "MarriedStreets") ∈ wsN := inNw (inT1 (i := 79) rfl) rfl
theorem q_189 : (Cond.fieldLinkNest "MarriedStreets" 175 "MarriedStreets$City" "corners" "I" "MarriedStreets") ∈ wsN := inNw (inT1 (i := 80) rfl) rfl
theorem q_190 : (Cond.fieldLink "MarriedStreets$City" 52 "MarriedStreets$City" "streets" "I") ∈ wsG := inGw (inT1 (i := 81) rfl) rfl
theorem q_191 : (Cond.fieldLinkNest "MarriedStreets$Roads" 32 "MarriedStreets$City" "streets" "I" "MarriedStreets") ∈ wsN := inNw (inT1 (i := 82) rfl) rfl
theorem q_192 : (Cond.fieldLinkNest "MarriedStreets" 129 "MarriedStreets$City" "streets" "I" "MarriedStreets") ∈ wsN := inNw (inT1 (i := 83) rfl) rfl
theorem q_193 : (Cond.fieldLinkNest "MarriedStreets$Matcher" 43 "MarriedStreets$City" "streets" "I" "MarriedStreets") ∈ wsN := inNw (inT1 (i := 84) rfl) rfl
theorem q_194 : (Cond.fieldLink "MarriedStreets$City" 55 "MarriedStreets$City" "goods" "I") ∈ wsG := inGw (inT1 (i := 85) rfl) rfl
theorem q_195 : (Cond.fieldLinkNest "MarriedStreets" 178 "MarriedStreets$City" "goods" "I" "MarriedStreets") ∈ wsN := inNw (inT1 (i := 86) rfl) rfl
theorem q_196 : (Cond.fieldLink "MarriedStreets$City" 58 "MarriedStreets$City" "river" "I") ∈ wsG := inGw (inT1 (i := 87) rfl) rfl
theorem q_197 : (Cond.fieldLinkNest "MarriedStreets" 320 "MarriedStreets$City" "river" "I" "MarriedStreets") ∈ wsN := inNw (inT1 (i := 88) rfl) rfl
theorem q_198 : (Cond.fieldLink "MarriedStreets$City" 11 "MarriedStreets$City" "cornerX" "[I") ∈ wsG := inGw (inT1 (i := 89) rfl) rfl
theorem q_199 : (Cond.fieldLink "MarriedStreets$City" 15 "MarriedStreets$City" "cornerY" "[I") ∈ wsG := inGw (inT1 (i := 90) rfl) rfl
theorem q_200 : (Cond.fieldLink "MarriedStreets$City" 18 "MarriedStreets$City" "starts" "[I") ∈ wsG := inGw (inT1 (i := 91) rfl) rfl
theorem q_201 : (Cond.fieldLink "MarriedStreets$City" 21 "MarriedStreets$City" "ends" "[I") ∈ wsG := inGw (inT1 (i := 92) rfl) rfl
theorem q_202 : (Cond.fieldLink "MarriedStreets$City" 24 "MarriedStreets$City" "houses" "[I") ∈ wsG := inGw (inT1 (i := 93) rfl) rfl
theorem q_203 : (Cond.fieldLink "MarriedStreets$City" 27 "MarriedStreets$City" "trees" "[I") ∈ wsG := inGw (inT1 (i := 94) rfl) rfl
theorem q_204 : (Cond.fieldLink "MarriedStreets$City" 30 "MarriedStreets$City" "lengths" "[I") ∈ wsG := inGw (inT1 (i := 95) rfl) rfl
theorem q_205 : (Cond.fieldLink "MarriedStreets$City" 33 "MarriedStreets$City" "likings" "[I") ∈ wsG := inGw (inT1 (i := 96) rfl) rfl
theorem q_206 : (Cond.fieldLink "MarriedStreets$City" 36 "MarriedStreets$City" "nevers" "[I") ∈ wsG := inGw (inT1 (i := 97) rfl) rfl
theorem q_207 : (Cond.fieldLink "MarriedStreets$City" 39 "MarriedStreets$City" "oneWorths" "[I") ∈ wsG := inGw (inT1 (i := 98) rfl) rfl
theorem q_208 : (Cond.fieldLink "MarriedStreets$City" 42 "MarriedStreets$City" "otherWorths" "[I") ∈ wsG := inGw (inT1 (i := 99) rfl) rfl
theorem q_209 : (Cond.fieldLink "MarriedStreets$City" 177 "MarriedStreets$City" "laneStartX" "I") ∈ wsG := inGw (inT1 (i := 100) rfl) rfl
theorem q_210 : (Cond.fieldLink "MarriedStreets$City" 180 "MarriedStreets$City" "laneStartY" "I") ∈ wsG := inGw (inT1 (i := 101) rfl) rfl
theorem q_211 : (Cond.fieldLink "MarriedStreets$City" 183 "MarriedStreets$City" "laneLess" "I") ∈ wsG := inGw (inT1 (i := 102) rfl) rfl
theorem q_212 : (Cond.fieldLink "MarriedStreets$City" 186 "MarriedStreets$City" "laneMore" "I") ∈ wsG := inGw (inT1 (i := 103) rfl) rfl
theorem q_252 : (Cond.arrayClass FieldType.int) ∈ wsG := inGw (inT1 (i := 143) rfl) rfl
theorem q_253 : (Cond.classLink "MarriedStreets" 32 "MarriedStreets$Law") ∈ wsG := inGw (inT1 (i := 144) rfl) rfl
theorem q_254 : (Cond.instantiable "MarriedStreets$Law" 3) ∈ wsG := inGw (inT1 (i := 145) rfl) rfl
theorem q_255 : (Cond.methodLinkNest "MarriedStreets" 34 ⟨"MarriedStreets$Law", "<init>", "()V"⟩ "MarriedStreets") ∈ wsN := inNw (inT1 (i := 146) rfl) rfl
theorem q_256 : (Cond.instanceMethod ⟨"MarriedStreets$Law", "<init>", "()V"⟩) ∈ wsG := inGw (inT1 (i := 147) rfl) rfl
theorem q_257 : (Cond.code ⟨"MarriedStreets$Law", "<init>", "()V"⟩ prog_4_method_1_code 1 none) ∈ wsG := inGw (inT1 (i := 148) rfl) rfl
theorem q_258 : (Cond.methodLink "MarriedStreets$Law" 3 ⟨"java/lang/Object", "<init>", "()V"⟩) ∈ wsG := inGw (inT1 (i := 149) rfl) rfl
theorem q_259 : (Cond.fieldLink "MarriedStreets$Law" 9 "MarriedStreets$Law" "code" "[I") ∈ wsG := inGw (inT1 (i := 150) rfl) rfl
theorem q_260 : (Cond.fieldLink "MarriedStreets$Law" 15 "MarriedStreets$Law" "stack" "[I") ∈ wsG := inGw (inT1 (i := 151) rfl) rfl
theorem q_261 : (Cond.fieldLink "MarriedStreets$Law" 18 "MarriedStreets$Law" "size" "I") ∈ wsG := inGw (inT1 (i := 152) rfl) rfl
theorem q_269 : (Cond.classLink "MarriedStreets" 42 "MarriedStreets$Mail") ∈ wsG := inGw (inT1 (i := 160) rfl) rfl
theorem q_270 : (Cond.instantiable "MarriedStreets$Mail" 3) ∈ wsG := inGw (inT1 (i := 161) rfl) rfl
theorem q_271 : (Cond.methodLinkNest "MarriedStreets" 44 ⟨"MarriedStreets$Mail", "<init>", "()V"⟩ "MarriedStreets") ∈ wsN := inNw (inT1 (i := 162) rfl) rfl
theorem q_272 : (Cond.instanceMethod ⟨"MarriedStreets$Mail", "<init>", "()V"⟩) ∈ wsG := inGw (inT1 (i := 163) rfl) rfl
theorem q_273 : (Cond.code ⟨"MarriedStreets$Mail", "<init>", "()V"⟩ prog_7_method_1_code 1 none) ∈ wsG := inGw (inT1 (i := 164) rfl) rfl
theorem q_274 : (Cond.methodLink "MarriedStreets$Mail" 3 ⟨"java/lang/Object", "<init>", "()V"⟩) ∈ wsG := inGw (inT1 (i := 165) rfl) rfl
theorem q_275 : (Cond.fieldLink "MarriedStreets$Mail" 11 "MarriedStreets$Mail" "numbers" "[I") ∈ wsG := inGw (inT1 (i := 166) rfl) rfl
theorem q_276 : (Cond.fieldLink "MarriedStreets$Mail" 15 "MarriedStreets$Mail" "houses" "[I") ∈ wsG := inGw (inT1 (i := 167) rfl) rfl
theorem q_277 : (Cond.fieldLink "MarriedStreets$Mail" 18 "MarriedStreets$Mail" "lines" "I") ∈ wsG := inGw (inT1 (i := 168) rfl) rfl
theorem q_278 : (Cond.fieldLinkNest "MarriedStreets" 158 "MarriedStreets$Mail" "lines" "I" "MarriedStreets") ∈ wsN := inNw (inT1 (i := 169) rfl) rfl
theorem q_286 : (Cond.classLink "MarriedStreets" 52 "MarriedStreets$Plan") ∈ wsG := inGw (inT1 (i := 177) rfl) rfl
theorem q_287 : (Cond.instantiable "MarriedStreets$Plan" 7) ∈ wsG := inGw (inT1 (i := 178) rfl) rfl
theorem q_288 : (Cond.methodLinkNest "MarriedStreets" 54 ⟨"MarriedStreets$Plan", "<init>", "()V"⟩ "MarriedStreets") ∈ wsN := inNw (inT1 (i := 179) rfl) rfl
theorem q_289 : (Cond.instanceMethod ⟨"MarriedStreets$Plan", "<init>", "()V"⟩) ∈ wsG := inGw (inT1 (i := 180) rfl) rfl
theorem q_290 : (Cond.code ⟨"MarriedStreets$Plan", "<init>", "()V"⟩ prog_9_method_1_code 1 none) ∈ wsG := inGw (inT1 (i := 181) rfl) rfl
theorem q_291 : (Cond.methodLink "MarriedStreets$Plan" 3 ⟨"java/lang/Object", "<init>", "()V"⟩) ∈ wsG := inGw (inT1 (i := 182) rfl) rfl
theorem q_292 : (Cond.fieldLink "MarriedStreets$Plan" 11 "MarriedStreets$Plan" "kinds" "[I") ∈ wsG := inGw (inT1 (i := 183) rfl) rfl
theorem q_293 : (Cond.fieldLink "MarriedStreets$Plan" 15 "MarriedStreets$Plan" "firsts" "[I") ∈ wsG := inGw (inT1 (i := 184) rfl) rfl
theorem q_294 : (Cond.fieldLink "MarriedStreets$Plan" 18 "MarriedStreets$Plan" "seconds" "[I") ∈ wsG := inGw (inT1 (i := 185) rfl) rfl
theorem q_295 : (Cond.fieldLink "MarriedStreets$Plan" 21 "MarriedStreets$Plan" "size" "I") ∈ wsG := inGw (inT1 (i := 186) rfl) rfl
theorem q_296 : (Cond.fieldLinkNest "MarriedStreets" 144 "MarriedStreets$Plan" "size" "I" "MarriedStreets") ∈ wsN := inNw (inT1 (i := 187) rfl) rfl
theorem q_297 : (Cond.fieldLink "MarriedStreets$Plan" 25 "MarriedStreets$Plan" "begun" "I") ∈ wsG := inGw (inT1 (i := 188) rfl) rfl
theorem q_298 : (Cond.fieldLink "MarriedStreets$Plan" 28 "MarriedStreets$Plan" "done" "I") ∈ wsG := inGw (inT1 (i := 189) rfl) rfl
theorem q_299 : (Cond.fieldLinkNest "MarriedStreets" 154 "MarriedStreets$Plan" "done" "I" "MarriedStreets") ∈ wsN := inNw (inT1 (i := 190) rfl) rfl
theorem q_300 : (Cond.fieldLink "MarriedStreets$Plan" 31 "MarriedStreets$Plan" "refused" "I") ∈ wsG := inGw (inT1 (i := 191) rfl) rfl
theorem q_301 : (Cond.fieldLinkNest "MarriedStreets" 151 "MarriedStreets$Plan" "refused" "I" "MarriedStreets") ∈ wsN := inNw (inT1 (i := 192) rfl) rfl
theorem q_317 : (Cond.classLink "MarriedStreets" 59 "MarriedStreets$Life") ∈ wsG := inGw (inT1 (i := 208) rfl) rfl
theorem q_318 : (Cond.instantiable "MarriedStreets$Life" 1) ∈ wsG := inGw (inT1 (i := 209) rfl) rfl
theorem q_319 : (Cond.methodLinkNest "MarriedStreets" 61 ⟨"MarriedStreets$Life", "<init>", "()V"⟩ "MarriedStreets") ∈ wsN := inNw (inT1 (i := 210) rfl) rfl
theorem q_320 : (Cond.instanceMethod ⟨"MarriedStreets$Life", "<init>", "()V"⟩) ∈ wsG := inGw (inT1 (i := 211) rfl) rfl
theorem q_321 : (Cond.code ⟨"MarriedStreets$Life", "<init>", "()V"⟩ prog_6_method_1_code 1 none) ∈ wsG := inGw (inT1 (i := 212) rfl) rfl
theorem q_322 : (Cond.methodLink "MarriedStreets$Life" 3 ⟨"java/lang/Object", "<init>", "()V"⟩) ∈ wsG := inGw (inT1 (i := 213) rfl) rfl
theorem q_323 : (Cond.fieldLink "MarriedStreets$Life" 11 "MarriedStreets$Life" "row" "[I") ∈ wsG := inGw (inT1 (i := 214) rfl) rfl
theorem q_327 : (Cond.classLink "MarriedStreets" 69 "MarriedStreets$Ledger") ∈ wsG := inGw (inT1 (i := 218) rfl) rfl
theorem q_328 : (Cond.instantiable "MarriedStreets$Ledger" 4) ∈ wsG := inGw (inT1 (i := 219) rfl) rfl
theorem q_329 : (Cond.methodLinkNest "MarriedStreets" 71 ⟨"MarriedStreets$Ledger", "<init>", "()V"⟩ "MarriedStreets") ∈ wsN := inNw (inT1 (i := 220) rfl) rfl
theorem q_330 : (Cond.instanceMethod ⟨"MarriedStreets$Ledger", "<init>", "()V"⟩) ∈ wsG := inGw (inT1 (i := 221) rfl) rfl
theorem q_331 : (Cond.code ⟨"MarriedStreets$Ledger", "<init>", "()V"⟩ prog_5_method_1_code 1 none) ∈ wsG := inGw (inT1 (i := 222) rfl) rfl
theorem q_332 : (Cond.methodLink "MarriedStreets$Ledger" 5 ⟨"java/lang/Object", "<init>", "()V"⟩) ∈ wsG := inGw (inT1 (i := 223) rfl) rfl
theorem q_333 : (Cond.fieldLink "MarriedStreets$Ledger" 11 "MarriedStreets$Ledger" "workRows" "[I") ∈ wsG := inGw (inT1 (i := 224) rfl) rfl
theorem q_334 : (Cond.fieldLink "MarriedStreets$Ledger" 15 "MarriedStreets$Ledger" "imageRows" "[I") ∈ wsG := inGw (inT1 (i := 225) rfl) rfl
theorem q_335 : (Cond.fieldLink "MarriedStreets$Ledger" 18 "MarriedStreets$Ledger" "works" "I") ∈ wsG := inGw (inT1 (i := 226) rfl) rfl
theorem q_336 : (Cond.fieldLinkNest "MarriedStreets" 168 "MarriedStreets$Ledger" "works" "I" "MarriedStreets") ∈ wsN := inNw (inT1 (i := 227) rfl) rfl
theorem q_337 : (Cond.fieldLink "MarriedStreets$Ledger" 22 "MarriedStreets$Ledger" "images" "I") ∈ wsG := inGw (inT1 (i := 228) rfl) rfl
theorem q_338 : (Cond.fieldLinkNest "MarriedStreets" 370 "MarriedStreets$Ledger" "images" "I" "MarriedStreets") ∈ wsN := inNw (inT1 (i := 229) rfl) rfl
theorem q_348 : (Cond.classLink "MarriedStreets" 76 "MarriedStreets$Matcher") ∈ wsG := inGw (inT1 (i := 239) rfl) rfl
theorem q_349 : (Cond.instantiable "MarriedStreets$Matcher" 6) ∈ wsG := inGw (inT2 (i := 0) rfl) rfl
theorem q_350 : (Cond.methodLinkNest "MarriedStreets" 78 ⟨"MarriedStreets$Matcher", "<init>", "()V"⟩ "MarriedStreets") ∈ wsN := inNw (inT2 (i := 1) rfl) rfl
theorem q_351 : (Cond.instanceMethod ⟨"MarriedStreets$Matcher", "<init>", "()V"⟩) ∈ wsG := inGw (inT2 (i := 2) rfl) rfl
theorem q_352 : (Cond.code ⟨"MarriedStreets$Matcher", "<init>", "()V"⟩ prog_8_method_1_code 1 none) ∈ wsG := inGw (inT2 (i := 3) rfl) rfl
theorem q_353 : (Cond.methodLink "MarriedStreets$Matcher" 3 ⟨"java/lang/Object", "<init>", "()V"⟩) ∈ wsG := inGw (inT2 (i := 4) rfl) rfl
theorem q_354 : (Cond.fieldLink "MarriedStreets$Matcher" 11 "MarriedStreets$Matcher" "may" "[I") ∈ wsG := inGw (inT2 (i := 5) rfl) rfl
theorem q_355 : (Cond.fieldLink "MarriedStreets$Matcher" 17 "MarriedStreets$Matcher" "mates" "[I") ∈ wsG := inGw (inT2 (i := 6) rfl) rfl
theorem q_356 : (Cond.fieldLink "MarriedStreets$Matcher" 20 "MarriedStreets$Matcher" "stableMates" "[I") ∈ wsG := inGw (inT2 (i := 7) rfl) rfl
theorem q_357 : (Cond.fieldLink "MarriedStreets$Matcher" 23 "MarriedStreets$Matcher" "warmMates" "[I") ∈ wsG := inGw (inT2 (i := 8) rfl) rfl
theorem q_358 : (Cond.fieldLink "MarriedStreets$Matcher" 32 "MarriedStreets$Matcher" "stables" "I") ∈ wsG := inGw (inT2 (i := 9) rfl) rfl
theorem q_359 : (Cond.fieldLinkNest "MarriedStreets" 251 "MarriedStreets$Matcher" "stables" "I" "MarriedStreets") ∈ wsN := inNw (inT2 (i := 10) rfl) rfl
theorem q_360 : (Cond.fieldLink "MarriedStreets$Matcher" 36 "MarriedStreets$Matcher" "warmest" "I") ∈ wsG := inGw (inT2 (i := 11) rfl) rfl
theorem q_361 : (Cond.fieldLinkNest "MarriedStreets" 257 "MarriedStreets$Matcher" "warmest" "I" "MarriedStreets") ∈ wsN := inNw (inT2 (i := 12) rfl) rfl
theorem q_375 : (Cond.classLink "MarriedStreets" 83 "MarriedStreets$Roads") ∈ wsG := inGw (inT2 (i := 26) rfl) rfl
theorem q_376 : (Cond.instantiable "MarriedStreets$Roads" 2) ∈ wsG := inGw (inT2 (i := 27) rfl) rfl
theorem q_377 : (Cond.methodLinkNest "MarriedStreets" 85 ⟨"MarriedStreets$Roads", "<init>", "()V"⟩ "MarriedStreets") ∈ wsN := inNw (inT2 (i := 28) rfl) rfl
theorem q_378 : (Cond.instanceMethod ⟨"MarriedStreets$Roads", "<init>", "()V"⟩) ∈ wsG := inGw (inT2 (i := 29) rfl) rfl
theorem q_379 : (Cond.code ⟨"MarriedStreets$Roads", "<init>", "()V"⟩ prog_10_method_1_code 1 none) ∈ wsG := inGw (inT2 (i := 30) rfl) rfl
theorem q_380 : (Cond.methodLink "MarriedStreets$Roads" 3 ⟨"java/lang/Object", "<init>", "()V"⟩) ∈ wsG := inGw (inT2 (i := 31) rfl) rfl
theorem q_381 : (Cond.fieldLink "MarriedStreets$Roads" 11 "MarriedStreets$Roads" "steps" "[I") ∈ wsG := inGw (inT2 (i := 32) rfl) rfl
theorem q_382 : (Cond.fieldLink "MarriedStreets$Roads" 59 "MarriedStreets$Roads" "shortest" "I") ∈ wsG := inGw (inT2 (i := 33) rfl) rfl
theorem q_388 : (Cond.classLink "MarriedStreets" 90 "MarriedStreets$Dowries") ∈ wsG := inGw (inT2 (i := 39) rfl) rfl
theorem q_389 : (Cond.instantiable "MarriedStreets$Dowries" 5) ∈ wsG := inGw (inT2 (i := 40) rfl) rfl
theorem q_390 : (Cond.methodLinkNest "MarriedStreets" 92 ⟨"MarriedStreets$Dowries", "<init>", "()V"⟩ "MarriedStreets") ∈ wsN := inNw (inT2 (i := 41) rfl) rfl
theorem q_391 : (Cond.instanceMethod ⟨"MarriedStreets$Dowries", "<init>", "()V"⟩) ∈ wsG := inGw (inT2 (i := 42) rfl) rfl
theorem q_392 : (Cond.code ⟨"MarriedStreets$Dowries", "<init>", "()V"⟩ prog_3_method_1_code 1 none) ∈ wsG := inGw (inT2 (i := 43) rfl) rfl
theorem q_393 : (Cond.methodLink "MarriedStreets$Dowries" 3 ⟨"java/lang/Object", "<init>", "()V"⟩) ∈ wsG := inGw (inT2 (i := 44) rfl) rfl
theorem q_394 : (Cond.fieldLink "MarriedStreets$Dowries" 9 "MarriedStreets$Dowries" "oneBest" "[I") ∈ wsG := inGw (inT2 (i := 45) rfl) rfl
theorem q_395 : (Cond.fieldLink "MarriedStreets$Dowries" 15 "MarriedStreets$Dowries" "otherBest" "[I") ∈ wsG := inGw (inT2 (i := 46) rfl) rfl
theorem q_396 : (Cond.fieldLink "MarriedStreets$Dowries" 18 "MarriedStreets$Dowries" "rests" "I") ∈ wsG := inGw (inT2 (i := 47) rfl) rfl
theorem q_397 : (Cond.fieldLinkNest "MarriedStreets" 339 "MarriedStreets$Dowries" "rests" "I" "MarriedStreets") ∈ wsN := inNw (inT2 (i := 48) rfl) rfl
theorem q_398 : (Cond.fieldLink "MarriedStreets$Dowries" 22 "MarriedStreets$Dowries" "first" "I") ∈ wsG := inGw (inT2 (i := 49) rfl) rfl
theorem q_399 : (Cond.fieldLinkNest "MarriedStreets" 342 "MarriedStreets$Dowries" "first" "I" "MarriedStreets") ∈ wsN := inNw (inT2 (i := 50) rfl) rfl
theorem q_400 : (Cond.fieldLink "MarriedStreets$Dowries" 25 "MarriedStreets$Dowries" "together" "I") ∈ wsG := inGw (inT2 (i := 51) rfl) rfl
theorem q_401 : (Cond.fieldLinkNest "MarriedStreets" 345 "MarriedStreets$Dowries" "together" "I" "MarriedStreets") ∈ wsN := inNw (inT2 (i := 52) rfl) rfl
theorem q_413 : (Cond.methodLink "MarriedStreets" 97 ⟨"MarriedStreets$Life", "begin", "(LMarriedStreets$City;)V"⟩) ∈ wsG := inGw (inT2 (i := 64) rfl) rfl
theorem q_414 : (Cond.instanceMethod ⟨"MarriedStreets$Life", "begin", "(LMarriedStreets$City;)V"⟩) ∈ wsG := inGw (inT2 (i := 65) rfl) rfl
theorem q_415 : (Cond.selects "MarriedStreets$Life" ⟨"MarriedStreets$Life", "begin", "(LMarriedStreets$City;)V"⟩ ⟨"MarriedStreets$Life", "begin", "(LMarriedStreets$City;)V"⟩) ∈ wsG := inGw (inT2 (i := 66) rfl) rfl
theorem q_416 : (Cond.code ⟨"MarriedStreets$Life", "begin", "(LMarriedStreets$City;)V"⟩ prog_6_method_4_code 3 none) ∈ wsG := inGw (inT2 (i := 67) rfl) rfl
theorem q_417 : (Cond.methodLink "MarriedStreets$Life" 19 ⟨"MarriedStreets$Rows", "fill", "([II)V"⟩) ∈ wsG := inGw (inT2 (i := 68) rfl) rfl
theorem q_418 : (Cond.methodLink "MarriedStreets$Life" 27 ⟨"MarriedStreets$Rows", "put", "([III)V"⟩) ∈ wsG := inGw (inT2 (i := 69) rfl) rfl
theorem q_419 : (Cond.static ⟨"MarriedStreets$Rows", "put", "([III)V"⟩) ∈ wsG := inGw (inT2 (i := 70) rfl) rfl
theorem q_420 : (Cond.code ⟨"MarriedStreets$Rows", "put", "([III)V"⟩ prog_11_method_3_code 3 none) ∈ wsG := inGw (inT2 (i := 71) rfl) rfl
theorem q_421 : (Cond.methodLink "MarriedStreets$Life" 31 ⟨"MarriedStreets$City", "firstTreesOf", "(I)I"⟩) ∈ wsG := inGw (inT2 (i := 72) rfl) rfl
theorem q_422 : (Cond.instanceMethod ⟨"MarriedStreets$City", "firstTreesOf", "(I)I"⟩) ∈ wsG := inGw (inT2 (i := 73) rfl) rfl
theorem q_423 : (Cond.selects "MarriedStreets$City" ⟨"MarriedStreets$City", "firstTreesOf", "(I)I"⟩ ⟨"MarriedStreets$City", "firstTreesOf", "(I)I"⟩) ∈ wsG := inGw (inT2 (i := 74) rfl) rfl
theorem q_424 : (Cond.code ⟨"MarriedStreets$City", "firstTreesOf", "(I)I"⟩ prog_2_method_24_code 2 (Option.some FieldType.int)) ∈ wsG := inGw (inT2 (i := 75) rfl) rfl
theorem q_425 : (Cond.methodLink "MarriedStreets$City" 167 ⟨"MarriedStreets$Rows", "at", "([II)I"⟩) ∈ wsG := inGw (inT2 (i := 76) rfl) rfl
theorem q_426 : (Cond.static ⟨"MarriedStreets$Rows", "at", "([II)I"⟩) ∈ wsG := inGw (inT2 (i := 77) rfl) rfl
theorem q_427 : (Cond.code ⟨"MarriedStreets$Rows", "at", "([II)I"⟩ prog_11_method_2_code 2 (Option.some FieldType.int)) ∈ wsG := inGw (inT2 (i := 78) rfl) rfl
theorem q_428 : (Cond.fieldLink "MarriedStreets" 9 "MarriedStreets" "tape" "[B") ∈ wsG := inGw (inT2 (i := 79) rfl) rfl
theorem q_429 : (Cond.fieldLink "MarriedStreets" 101 "MarriedStreets" "taped" "I") ∈ wsG := inGw (inT2 (i := 80) rfl) rfl
theorem q_430 : (Cond.fieldLink "MarriedStreets" 18 "MarriedStreets" "text" "LMarriedStreets$Text;") ∈ wsG := inGw (inT2 (i := 81) rfl) rfl
theorem q_431 : (Cond.fieldLink "MarriedStreets" 25 "MarriedStreets" "town" "LMarriedStreets$City;") ∈ wsG := inGw (inT2 (i := 82) rfl) rfl
theorem q_432 : (Cond.fieldLink "MarriedStreets" 29 "MarriedStreets" "spareTown" "LMarriedStreets$City;") ∈ wsG := inGw (inT2 (i := 83) rfl) rfl
theorem q_433 : (Cond.fieldLink "MarriedStreets" 35 "MarriedStreets" "statute" "LMarriedStreets$Law;") ∈ wsG := inGw (inT2 (i := 84) rfl) rfl
theorem q_434 : (Cond.fieldLink "MarriedStreets" 39 "MarriedStreets" "spareStatute" "LMarriedStreets$Law;") ∈ wsG := inGw (inT2 (i := 85) rfl) rfl
theorem q_435 : (Cond.fieldLink "MarriedStreets" 45 "MarriedStreets" "mail" "LMarriedStreets$Mail;") ∈ wsG := inGw (inT2 (i := 86) rfl) rfl
theorem q_436 : (Cond.fieldLink "MarriedStreets" 49 "MarriedStreets" "spareMail" "LMarriedStreets$Mail;") ∈ wsG := inGw (inT2 (i := 87) rfl) rfl
theorem q_437 : (Cond.fieldLink "MarriedStreets" 55 "MarriedStreets" "plan" "LMarriedStreets$Plan;") ∈ wsG := inGw (inT2 (i := 88) rfl) rfl
theorem q_438 : (Cond.fieldLink "MarriedStreets" 62 "MarriedStreets" "now" "LMarriedStreets$Life;") ∈ wsG := inGw (inT2 (i := 89) rfl) rfl
theorem q_439 : (Cond.fieldLink "MarriedStreets" 66 "MarriedStreets" "dream" "LMarriedStreets$Life;") ∈ wsG := inGw (inT2 (i := 90) rfl) rfl
theorem q_440 : (Cond.fieldLink "MarriedStreets" 72 "MarriedStreets" "ledger" "LMarriedStreets$Ledger;") ∈ wsG := inGw (inT2 (i := 91) rfl) rfl
theorem q_441 : (Cond.fieldLink "MarriedStreets" 79 "MarriedStreets" "matcher" "LMarriedStreets$Matcher;") ∈ wsG := inGw (inT2 (i := 92) rfl) rfl
theorem q_442 : (Cond.fieldLink "MarriedStreets" 86 "MarriedStreets" "roads" "LMarriedStreets$Roads;") ∈ wsG := inGw (inT2 (i := 93) rfl) rfl
theorem q_443 : (Cond.fieldLink "MarriedStreets" 93 "MarriedStreets" "dowries" "LMarriedStreets$Dowries;") ∈ wsG := inGw (inT2 (i := 94) rfl) rfl
theorem q_444 : (Cond.fieldLink "MarriedStreets" 126 "MarriedStreets" "refusedSteps" "I") ∈ wsG := inGw (inT2 (i := 95) rfl) rfl
theorem q_445 : (Cond.fieldLink "MarriedStreets" 376 "MarriedStreets" "badPlaces" "I") ∈ wsG := inGw (inT2 (i := 96) rfl) rfl
theorem q_446 : (Cond.fieldLink "MarriedStreets" 379 "MarriedStreets" "badElements" "I") ∈ wsG := inGw (inT2 (i := 97) rfl) rfl
theorem q_447 : (Cond.fieldLink "MarriedStreets" 382 "MarriedStreets" "badArguments" "I") ∈ wsG := inGw (inT2 (i := 98) rfl) rfl
theorem q_489 : (Cond.methodLink "MarriedStreetsLaw" 105 ⟨"MarriedStreets", "feed", "(IIIII)I"⟩) ∈ wsG := inGw (inT2 (i := 140) rfl) rfl
theorem q_490 : (Cond.instanceMethod ⟨"MarriedStreets", "feed", "(IIIII)I"⟩) ∈ wsG := inGw (inT2 (i := 141) rfl) rfl
theorem q_491 : (Cond.selects "MarriedStreets" ⟨"MarriedStreets", "feed", "(IIIII)I"⟩ ⟨"MarriedStreets", "feed", "(IIIII)I"⟩) ∈ wsG := inGw (inT2 (i := 142) rfl) rfl
theorem q_492 : (Cond.code ⟨"MarriedStreets", "feed", "(IIIII)I"⟩ prog_1_method_2_code 6 (Option.some FieldType.int)) ∈ wsG := inGw (inT2 (i := 143) rfl) rfl
theorem q_493 : (Cond.methodLink "MarriedStreets" 105 ⟨"MarriedStreets", "tapeFour", "(I)V"⟩) ∈ wsG := inGw (inT2 (i := 144) rfl) rfl
theorem q_495 : (Cond.instanceMethod ⟨"MarriedStreets", "tapeFour", "(I)V"⟩) ∈ wsG := inGw (inT2 (i := 146) rfl) rfl
theorem q_496 : (Cond.code ⟨"MarriedStreets", "tapeFour", "(I)V"⟩ prog_1_method_42_code 3 none) ∈ wsG := inGw (inT2 (i := 147) rfl) rfl
theorem q_497 : (Cond.methodLink "MarriedStreetsLaw" 129 ⟨"MarriedStreets", "fault", "()I"⟩) ∈ wsG := inGw (inT2 (i := 148) rfl) rfl
theorem q_498 : (Cond.instanceMethod ⟨"MarriedStreets", "fault", "()I"⟩) ∈ wsG := inGw (inT2 (i := 149) rfl) rfl
theorem q_499 : (Cond.selects "MarriedStreets" ⟨"MarriedStreets", "fault", "()I"⟩ ⟨"MarriedStreets", "fault", "()I"⟩) ∈ wsG := inGw (inT2 (i := 150) rfl) rfl
theorem q_500 : (Cond.code ⟨"MarriedStreets", "fault", "()I"⟩ prog_1_method_7_code 1 (Option.some FieldType.int)) ∈ wsG := inGw (inT2 (i := 151) rfl) rfl
theorem q_501 : (Cond.methodLink "MarriedStreetsLaw" 133 ⟨"MarriedStreets", "undo", "()I"⟩) ∈ wsG := inGw (inT2 (i := 152) rfl) rfl
theorem q_502 : (Cond.instanceMethod ⟨"MarriedStreets", "undo", "()I"⟩) ∈ wsG := inGw (inT2 (i := 153) rfl) rfl
theorem q_503 : (Cond.selects "MarriedStreets" ⟨"MarriedStreets", "undo", "()I"⟩ ⟨"MarriedStreets", "undo", "()I"⟩) ∈ wsG := inGw (inT2 (i := 154) rfl) rfl
theorem q_504 : (Cond.code ⟨"MarriedStreets", "undo", "()I"⟩ prog_1_method_8_code 1 (Option.some FieldType.int)) ∈ wsG := inGw (inT2 (i := 155) rfl) rfl
theorem q_505 : (Cond.methodLink "MarriedStreets" 164 ⟨"MarriedStreets$Ledger", "takeWorkBack", "(LMarriedStreets$Life;)Z"⟩) ∈ wsG := inGw (inT2 (i := 156) rfl) rfl
theorem q_506 : (Cond.instanceMethod ⟨"MarriedStreets$Ledger", "takeWorkBack", "(LMarriedStreets$Life;)Z"⟩) ∈ wsG := inGw (inT2 (i := 157) rfl) rfl
theorem q_507 : (Cond.selects "MarriedStreets$Ledger" ⟨"MarriedStreets$Ledger", "takeWorkBack", "(LMarriedStreets$Life;)Z"⟩ ⟨"MarriedStreets$Ledger", "takeWorkBack", "(LMarriedStreets$Life;)Z"⟩) ∈ wsG := inGw (inT2 (i := 158) rfl) rfl
theorem q_508 : (Cond.code ⟨"MarriedStreets$Ledger", "takeWorkBack", "(LMarriedStreets$Life;)Z"⟩ prog_5_method_5_code 2 (Option.some FieldType.boolean)) ∈ wsG := inGw (inT2 (i := 159) rfl) rfl
theorem q_509 : (Cond.methodLink "MarriedStreets$Ledger" 29 ⟨"MarriedStreets$Life", "loadFrom", "([II)V"⟩) ∈ wsG := inGw (inT2 (i := 160) rfl) rfl
theorem q_510 : (Cond.instanceMethod ⟨"MarriedStreets$Life", "loadFrom", "([II)V"⟩) ∈ wsG := inGw (inT2 (i := 161) rfl) rfl
theorem q_511 : (Cond.selects "MarriedStreets$Life" ⟨"MarriedStreets$Life", "loadFrom", "([II)V"⟩ ⟨"MarriedStreets$Life", "loadFrom", "([II)V"⟩) ∈ wsG := inGw (inT2 (i := 162) rfl) rfl
theorem q_512 : (Cond.code ⟨"MarriedStreets$Life", "loadFrom", "([II)V"⟩ prog_6_method_7_code 3 none) ∈ wsG := inGw (inT2 (i := 163) rfl) rfl
theorem q_513 : (Cond.methodLink "MarriedStreets$Life" 35 ⟨"MarriedStreets$Rows", "copy", "([II[III)V"⟩) ∈ wsG := inGw (inT2 (i := 164) rfl) rfl
theorem q_514 : (Cond.static ⟨"MarriedStreets$Rows", "copy", "([II[III)V"⟩) ∈ wsG := inGw (inT2 (i := 165) rfl) rfl
theorem q_515 : (Cond.code ⟨"MarriedStreets$Rows", "copy", "([II[III)V"⟩ prog_11_method_5_code 6 none) ∈ wsG := inGw (inT2 (i := 166) rfl) rfl
theorem q_516 : (Cond.methodLink "MarriedStreets$Rows" 7 ⟨"MarriedStreets$Rows", "at", "([II)I"⟩) ∈ wsG := inGw (inT2 (i := 167) rfl) rfl
theorem q_517 : (Cond.methodLink "MarriedStreets$Rows" 13 ⟨"MarriedStreets$Rows", "put", "([III)V"⟩) ∈ wsG := inGw (inT2 (i := 168) rfl) rfl
theorem q_518 : (Cond.methodLink "MarriedStreetsLaw" 162 ⟨"MarriedStreets", "stable", "()I"⟩) ∈ wsG := inGw (inT2 (i := 169) rfl) rfl
theorem q_519 : (Cond.instanceMethod ⟨"MarriedStreets", "stable", "()I"⟩) ∈ wsG := inGw (inT2 (i := 170) rfl) rfl
theorem q_520 : (Cond.selects "MarriedStreets" ⟨"MarriedStreets", "stable", "()I"⟩ ⟨"MarriedStreets", "stable", "()I"⟩) ∈ wsG := inGw (inT2 (i := 171) rfl) rfl
theorem q_521 : (Cond.code ⟨"MarriedStreets", "stable", "()I"⟩ prog_1_method_17_code 1 (Option.some FieldType.int)) ∈ wsG := inGw (inT2 (i := 172) rfl) rfl
theorem q_522 : (Cond.methodLink "MarriedStreets" 247 ⟨"MarriedStreets$Matcher", "findAll", "(LMarriedStreets$City;LMarriedStreets$Life;LMarriedStreets$Law;)V"⟩) ∈ wsG := inGw (inT2 (i := 173) rfl) rfl
theorem q_523 : (Cond.instanceMethod ⟨"MarriedStreets$Matcher", "findAll", "(LMarriedStreets$City;LMarriedStreets$Life;LMarriedStreets$Law;)V"⟩) ∈ wsG := inGw (inT2 (i := 174) rfl) rfl
theorem q_524 : (Cond.selects "MarriedStreets$Matcher" ⟨"MarriedStreets$Matcher", "findAll", "(LMarriedStreets$City;LMarriedStreets$Life;LMarriedStreets$Law;)V"⟩ ⟨"MarriedStreets$Matcher", "findAll", "(LMarriedStreets$City;LMarriedStreets$Life;LMarriedStreets$Law;)V"⟩) ∈ wsG := inGw (inT2 (i := 175) rfl) rfl
theorem q_525 : (Cond.code ⟨"MarriedStreets$Matcher", "findAll", "(LMarriedStreets$City;LMarriedStreets$Life;LMarriedStreets$Law;)V"⟩ prog_8_method_4_code 5 none) ∈ wsG := inGw (inT2 (i := 176) rfl) rfl
theorem q_526 : (Cond.methodLink "MarriedStreets$Matcher" 39 ⟨"MarriedStreets$Rows", "fill", "([II)V"⟩) ∈ wsG := inGw (inT2 (i := 177) rfl) rfl
theorem q_527 : (Cond.methodLink "MarriedStreets$Matcher" 46 ⟨"MarriedStreets$Matcher", "mayMarry", "(LMarriedStreets$City;LMarriedStreets$Life;LMarriedStreets$Law;I)I"⟩) ∈ wsG := inGw (inT2 (i := 178) rfl) rfl
theorem q_528 : (Cond.static ⟨"MarriedStreets$Matcher", "mayMarry", "(LMarriedStreets$City;LMarriedStreets$Life;LMarriedStreets$Law;I)I"⟩) ∈ wsG := inGw (inT2 (i := 179) rfl) rfl
theorem q_529 : (Cond.code ⟨"MarriedStreets$Matcher", "mayMarry", "(LMarriedStreets$City;LMarriedStreets$Life;LMarriedStreets$Law;I)I"⟩ prog_8_method_5_code 6 (Option.some FieldType.int)) ∈ wsG := inGw (inT2 (i := 180) rfl) rfl
theorem q_530 : (Cond.methodLink "MarriedStreets$Matcher" 58 ⟨"MarriedStreets$Life", "mateOf", "(I)I"⟩) ∈ wsG := inGw (inT2 (i := 181) rfl) rfl
theorem q_531 : (Cond.instanceMethod ⟨"MarriedStreets$Life", "mateOf", "(I)I"⟩) ∈ wsG := inGw (inT2 (i := 182) rfl) rfl
theorem q_532 : (Cond.selects "MarriedStreets$Life" ⟨"MarriedStreets$Life", "mateOf", "(I)I"⟩ ⟨"MarriedStreets$Life", "mateOf", "(I)I"⟩) ∈ wsG := inGw (inT2 (i := 183) rfl) rfl
theorem q_533 : (Cond.code ⟨"MarriedStreets$Life", "mateOf", "(I)I"⟩ prog_6_method_8_code 2 (Option.some FieldType.int)) ∈ wsG := inGw (inT2 (i := 184) rfl) rfl
theorem q_534 : (Cond.methodLink "MarriedStreets$Life" 39 ⟨"MarriedStreets$Rows", "at", "([II)I"⟩) ∈ wsG := inGw (inT2 (i := 185) rfl) rfl
theorem q_535 : (Cond.methodLink "MarriedStreets$Matcher" 64 ⟨"MarriedStreets$Law", "hindrance", "(LMarriedStreets$City;LMarriedStreets$Life;II)I"⟩) ∈ wsG := inGw (inT2 (i := 186) rfl) rfl
theorem q_536 : (Cond.instanceMethod ⟨"MarriedStreets$Law", "hindrance", "(LMarriedStreets$City;LMarriedStreets$Life;II)I"⟩) ∈ wsG := inGw (inT2 (i := 187) rfl) rfl
theorem q_537 : (Cond.selects "MarriedStreets$Law" ⟨"MarriedStreets$Law", "hindrance", "(LMarriedStreets$City;LMarriedStreets$Life;II)I"⟩ ⟨"MarriedStreets$Law", "hindrance", "(LMarriedStreets$City;LMarriedStreets$Life;II)I"⟩) ∈ wsG := inGw (inT2 (i := 188) rfl) rfl
theorem q_538 : (Cond.code ⟨"MarriedStreets$Law", "hindrance", "(LMarriedStreets$City;LMarriedStreets$Life;II)I"⟩ prog_4_method_11_code 5 (Option.some FieldType.int)) ∈ wsG := inGw (inT2 (i := 189) rfl) rfl
theorem q_539 : (Cond.methodLink "MarriedStreets$Law" 105 ⟨"MarriedStreets$City", "isNever", "(II)Z"⟩) ∈ wsG := inGw (inT2 (i := 190) rfl) rfl
theorem q_540 : (Cond.instanceMethod ⟨"MarriedStreets$City", "isNever", "(II)Z"⟩) ∈ wsG := inGw (inT2 (i := 191) rfl) rfl
theorem q_541 : (Cond.selects "MarriedStreets$City" ⟨"MarriedStreets$City", "isNever", "(II)Z"⟩ ⟨"MarriedStreets$City", "isNever", "(II)Z"⟩) ∈ wsG := inGw (inT2 (i := 192) rfl) rfl
theorem q_542 : (Cond.code ⟨"MarriedStreets$City", "isNever", "(II)Z"⟩ prog_2_method_27_code 3 (Option.some FieldType.boolean)) ∈ wsG := inGw (inT2 (i := 193) rfl) rfl
theorem q_543 : (Cond.methodLink "MarriedStreets$Law" 111 ⟨"MarriedStreets$Law", "value", "(LMarriedStreets$City;LMarriedStreets$Life;II)I"⟩) ∈ wsG := inGw (inT2 (i := 194) rfl) rfl
theorem q_545 : (Cond.instanceMethod ⟨"MarriedStreets$Law", "value", "(LMarriedStreets$City;LMarriedStreets$Life;II)I"⟩) ∈ wsG := inGw (inT2 (i := 196) rfl) rfl
theorem q_546 : (Cond.code ⟨"MarriedStreets$Law", "value", "(LMarriedStreets$City;LMarriedStreets$Life;II)I"⟩ prog_4_method_12_code 8 (Option.some FieldType.int)) ∈ wsG := inGw (inT2 (i := 197) rfl) rfl
theorem q_547 : (Cond.methodLink "MarriedStreets$Law" 115 ⟨"MarriedStreets$Rows", "at", "([II)I"⟩) ∈ wsG := inGw (inT2 (i := 198) rfl) rfl
theorem q_548 : (Cond.methodLink "MarriedStreets$Law" 119 ⟨"MarriedStreets$Law", "joined", "(III)I"⟩) ∈ wsG := inGw (inT2 (i := 199) rfl) rfl
theorem q_549 : (Cond.static ⟨"MarriedStreets$Law", "joined", "(III)I"⟩) ∈ wsG := inGw (inT2 (i := 200) rfl) rfl
theorem q_550 : (Cond.code ⟨"MarriedStreets$Law", "joined", "(III)I"⟩ prog_4_method_13_code 3 (Option.some FieldType.int)) ∈ wsG := inGw (inT2 (i := 201) rfl) rfl
theorem q_551 : (Cond.methodLink "MarriedStreets$Law" 127 ⟨"java/lang/Math", "min", "(II)I"⟩) ∈ wsG := inGw (inT2 (i := 202) rfl) rfl
theorem q_552 : (Cond.static ⟨"java/lang/Math", "min", "(II)I"⟩) ∈ wsG := inGw (inT2 (i := 203) rfl) rfl
theorem q_553 : (Cond.code ⟨"java/lang/Math", "min", "(II)I"⟩ prog_22_method_69_code 2 (Option.some FieldType.int)) ∈ wsG := inGw (inT2 (i := 204) rfl) rfl
theorem q_554 : (Cond.methodLink "MarriedStreets$Law" 132 ⟨"java/lang/Math", "max", "(II)I"⟩) ∈ wsG := inGw (inT2 (i := 205) rfl) rfl
theorem q_555 : (Cond.static ⟨"java/lang/Math", "max", "(II)I"⟩) ∈ wsG := inGw (inT2 (i := 206) rfl) rfl
theorem q_556 : (Cond.code ⟨"java/lang/Math", "max", "(II)I"⟩ prog_22_method_65_code 2 (Option.some FieldType.int)) ∈ wsG := inGw (inT2 (i := 207) rfl) rfl
theorem q_557 : (Cond.methodLink "MarriedStreets$Law" 99 ⟨"MarriedStreets$Rows", "put", "([III)V"⟩) ∈ wsG := inGw (inT2 (i := 208) rfl) rfl
theorem q_558 : (Cond.methodLink "MarriedStreets$Law" 123 ⟨"MarriedStreets$Law", "fact", "(ILMarriedStreets$City;LMarriedStreets$Life;II)I"⟩) ∈ wsG := inGw (inT2 (i := 209) rfl) rfl
theorem q_559 : (Cond.static ⟨"MarriedStreets$Law", "fact", "(ILMarriedStreets$City;LMarriedStreets$Life;II)I"⟩) ∈ wsG := inGw (inT2 (i := 210) rfl) rfl
theorem q_560 : (Cond.code ⟨"MarriedStreets$Law", "fact", "(ILMarriedStreets$City;LMarriedStreets$Life;II)I"⟩ prog_4_method_14_code 5 (Option.some FieldType.int)) ∈ wsG := inGw (inT2 (i := 211) rfl) rfl
theorem q_561 : (Cond.methodLink "MarriedStreets$Law" 135 ⟨"MarriedStreets$City", "housesOf", "(I)I"⟩) ∈ wsG := inGw (inT2 (i := 212) rfl) rfl
theorem q_562 : (Cond.instanceMethod ⟨"MarriedStreets$City", "housesOf", "(I)I"⟩) ∈ wsG := inGw (inT2 (i := 213) rfl) rfl
theorem q_563 : (Cond.selects "MarriedStreets$City" ⟨"MarriedStreets$City", "housesOf", "(I)I"⟩ ⟨"MarriedStreets$City", "housesOf", "(I)I"⟩) ∈ wsG := inGw (inT2 (i := 214) rfl) rfl
theorem q_564 : (Cond.code ⟨"MarriedStreets$City", "housesOf", "(I)I"⟩ prog_2_method_23_code 2 (Option.some FieldType.int)) ∈ wsG := inGw (inT2 (i := 215) rfl) rfl
theorem q_565 : (Cond.methodLink "MarriedStreets$Law" 139 ⟨"MarriedStreets$Life", "treesOf", "(I)I"⟩) ∈ wsG := inGw (inT2 (i := 216) rfl) rfl
theorem q_566 : (Cond.instanceMethod ⟨"MarriedStreets$Life", "treesOf", "(I)I"⟩) ∈ wsG := inGw (inT2 (i := 217) rfl) rfl
theorem q_567 : (Cond.selects "MarriedStreets$Life" ⟨"MarriedStreets$Life", "treesOf", "(I)I"⟩ ⟨"MarriedStreets$Life", "treesOf", "(I)I"⟩) ∈ wsG := inGw (inT2 (i := 218) rfl) rfl
theorem q_568 : (Cond.code ⟨"MarriedStreets$Life", "treesOf", "(I)I"⟩ prog_6_method_11_code 2 (Option.some FieldType.int)) ∈ wsG := inGw (inT2 (i := 219) rfl) rfl
theorem q_569 : (Cond.methodLink "MarriedStreets$Law" 144 ⟨"MarriedStreets$City", "liking", "(II)I"⟩) ∈ wsG := inGw (inT2 (i := 220) rfl) rfl
theorem q_570 : (Cond.instanceMethod ⟨"MarriedStreets$City", "liking", "(II)I"⟩) ∈ wsG := inGw (inT2 (i := 221) rfl) rfl
theorem q_571 : (Cond.selects "MarriedStreets$City" ⟨"MarriedStreets$City", "liking", "(II)I"⟩ ⟨"MarriedStreets$City", "liking", "(II)I"⟩) ∈ wsG := inGw (inT2 (i := 222) rfl) rfl
theorem q_572 : (Cond.code ⟨"MarriedStreets$City", "liking", "(II)I"⟩ prog_2_method_26_code 3 (Option.some FieldType.int)) ∈ wsG := inGw (inT2 (i := 223) rfl) rfl
theorem q_573 : (Cond.methodLink "MarriedStreets$Law" 147 ⟨"MarriedStreets$City", "commonCorners", "(II)I"⟩) ∈ wsG := inGw (inT2 (i := 224) rfl) rfl
theorem q_574 : (Cond.instanceMethod ⟨"MarriedStreets$City", "commonCorners", "(II)I"⟩) ∈ wsG := inGw (inT2 (i := 225) rfl) rfl
theorem q_575 : (Cond.selects "MarriedStreets$City" ⟨"MarriedStreets$City", "commonCorners", "(II)I"⟩ ⟨"MarriedStreets$City", "commonCorners", "(II)I"⟩) ∈ wsG := inGw (inT2 (i := 226) rfl) rfl
theorem q_576 : (Cond.code ⟨"MarriedStreets$City", "commonCorners", "(II)I"⟩ prog_2_method_28_code 7 (Option.some FieldType.int)) ∈ wsG := inGw (inT2 (i := 227) rfl) rfl
theorem q_577 : (Cond.methodLink "MarriedStreets$Law" 150 ⟨"MarriedStreets$City", "lengthOf", "(I)I"⟩) ∈ wsG := inGw (inT2 (i := 228) rfl) rfl
theorem q_578 : (Cond.instanceMethod ⟨"MarriedStreets$City", "lengthOf", "(I)I"⟩) ∈ wsG := inGw (inT2 (i := 229) rfl) rfl
theorem q_579 : (Cond.selects "MarriedStreets$City" ⟨"MarriedStreets$City", "lengthOf", "(I)I"⟩ ⟨"MarriedStreets$City", "lengthOf", "(I)I"⟩) ∈ wsG := inGw (inT2 (i := 230) rfl) rfl
theorem q_580 : (Cond.code ⟨"MarriedStreets$City", "lengthOf", "(I)I"⟩ prog_2_method_25_code 2 (Option.some FieldType.int)) ∈ wsG := inGw (inT2 (i := 231) rfl) rfl
theorem q_581 : (Cond.methodLink "MarriedStreets$Law" 153 ⟨"MarriedStreets$Life", "yearNow", "()I"⟩) ∈ wsG := inGw (inT2 (i := 232) rfl) rfl
theorem q_582 : (Cond.instanceMethod ⟨"MarriedStreets$Life", "yearNow", "()I"⟩) ∈ wsG := inGw (inT2 (i := 233) rfl) rfl
theorem q_583 : (Cond.selects "MarriedStreets$Life" ⟨"MarriedStreets$Life", "yearNow", "()I"⟩ ⟨"MarriedStreets$Life", "yearNow", "()I"⟩) ∈ wsG := inGw (inT2 (i := 234) rfl) rfl
theorem q_584 : (Cond.code ⟨"MarriedStreets$Life", "yearNow", "()I"⟩ prog_6_method_13_code 1 (Option.some FieldType.int)) ∈ wsG := inGw (inT2 (i := 235) rfl) rfl
theorem q_585 : (Cond.methodLink "MarriedStreets$Law" 157 ⟨"MarriedStreets$Life", "holesOf", "(I)I"⟩) ∈ wsG := inGw (inT2 (i := 236) rfl) rfl
theorem q_586 : (Cond.instanceMethod ⟨"MarriedStreets$Life", "holesOf", "(I)I"⟩) ∈ wsG := inGw (inT2 (i := 237) rfl) rfl
theorem q_587 : (Cond.selects "MarriedStreets$Life" ⟨"MarriedStreets$Life", "holesOf", "(I)I"⟩ ⟨"MarriedStreets$Life", "holesOf", "(I)I"⟩) ∈ wsG := inGw (inT2 (i := 238) rfl) rfl
theorem q_588 : (Cond.code ⟨"MarriedStreets$Life", "holesOf", "(I)I"⟩ prog_6_method_12_code 2 (Option.some FieldType.int)) ∈ wsG := inGw (inT2 (i := 239) rfl) rfl
theorem q_589 : (Cond.methodLink "MarriedStreets$Matcher" 50 ⟨"MarriedStreets$Rows", "put", "([III)V"⟩) ∈ wsG := inGw (inT3 (i := 0) rfl) rfl
theorem q_590 : (Cond.methodLink "MarriedStreets$Matcher" 54 ⟨"MarriedStreets$Matcher", "match", "(LMarriedStreets$City;I)V"⟩) ∈ wsG := inGw (inT3 (i := 1) rfl) rfl
theorem q_592 : (Cond.instanceMethod ⟨"MarriedStreets$Matcher", "match", "(LMarriedStreets$City;I)V"⟩) ∈ wsG := inGw (inT3 (i := 3) rfl) rfl
theorem q_593 : (Cond.code ⟨"MarriedStreets$Matcher", "match", "(LMarriedStreets$City;I)V"⟩ prog_8_method_6_code 4 none) ∈ wsG := inGw (inT3 (i := 4) rfl) rfl
theorem q_594 : (Cond.methodLink "MarriedStreets$Matcher" 70 ⟨"MarriedStreets$Matcher", "judge", "(LMarriedStreets$City;)V"⟩) ∈ wsG := inGw (inT3 (i := 5) rfl) rfl
theorem q_596 : (Cond.instanceMethod ⟨"MarriedStreets$Matcher", "judge", "(LMarriedStreets$City;)V"⟩) ∈ wsG := inGw (inT3 (i := 7) rfl) rfl
theorem q_597 : (Cond.code ⟨"MarriedStreets$Matcher", "judge", "(LMarriedStreets$City;)V"⟩ prog_8_method_8_code 3 none) ∈ wsG := inGw (inT3 (i := 8) rfl) rfl
theorem q_598 : (Cond.methodLink "MarriedStreets$Matcher" 78 ⟨"MarriedStreets$Matcher", "warmth", "(LMarriedStreets$City;)I"⟩) ∈ wsG := inGw (inT3 (i := 9) rfl) rfl
theorem q_600 : (Cond.instanceMethod ⟨"MarriedStreets$Matcher", "warmth", "(LMarriedStreets$City;)I"⟩) ∈ wsG := inGw (inT3 (i := 11) rfl) rfl
theorem q_601 : (Cond.code ⟨"MarriedStreets$Matcher", "warmth", "(LMarriedStreets$City;)I"⟩ prog_8_method_9_code 4 (Option.some FieldType.int)) ∈ wsG := inGw (inT3 (i := 12) rfl) rfl
theorem q_602 : (Cond.methodLink "MarriedStreets$Matcher" 26 ⟨"MarriedStreets$Rows", "at", "([II)I"⟩) ∈ wsG := inGw (inT3 (i := 13) rfl) rfl
theorem q_603 : (Cond.methodLink "MarriedStreets$Matcher" 90 ⟨"MarriedStreets$City", "liking", "(II)I"⟩) ∈ wsG := inGw (inT3 (i := 14) rfl) rfl
theorem q_604 : (Cond.methodLink "MarriedStreets$Matcher" 82 ⟨"MarriedStreets$Rows", "copy", "([II[III)V"⟩) ∈ wsG := inGw (inT3 (i := 15) rfl) rfl
theorem q_605 : (Cond.methodLink "MarriedStreets$Matcher" 86 ⟨"MarriedStreets$Matcher", "isStable", "(LMarriedStreets$City;)Z"⟩) ∈ wsG := inGw (inT3 (i := 16) rfl) rfl
theorem q_607 : (Cond.instanceMethod ⟨"MarriedStreets$Matcher", "isStable", "(LMarriedStreets$City;)Z"⟩) ∈ wsG := inGw (inT3 (i := 18) rfl) rfl
theorem q_608 : (Cond.code ⟨"MarriedStreets$Matcher", "isStable", "(LMarriedStreets$City;)Z"⟩ prog_8_method_10_code 4 (Option.some FieldType.boolean)) ∈ wsG := inGw (inT3 (i := 19) rfl) rfl
theorem q_609 : (Cond.methodLink "MarriedStreets$Matcher" 74 ⟨"MarriedStreets$Matcher", "isAllowed", "(II)Z"⟩) ∈ wsG := inGw (inT3 (i := 20) rfl) rfl
theorem q_611 : (Cond.instanceMethod ⟨"MarriedStreets$Matcher", "isAllowed", "(II)Z"⟩) ∈ wsG := inGw (inT3 (i := 22) rfl) rfl
theorem q_612 : (Cond.code ⟨"MarriedStreets$Matcher", "isAllowed", "(II)Z"⟩ prog_8_method_7_code 3 (Option.some FieldType.boolean)) ∈ wsG := inGw (inT3 (i := 23) rfl) rfl
theorem q_613 : (Cond.methodLink "MarriedStreets$Matcher" 94 ⟨"MarriedStreets$Matcher", "prefers", "(LMarriedStreets$City;II)Z"⟩) ∈ wsG := inGw (inT3 (i := 24) rfl) rfl
theorem q_615 : (Cond.instanceMethod ⟨"MarriedStreets$Matcher", "prefers", "(LMarriedStreets$City;II)Z"⟩) ∈ wsG := inGw (inT3 (i := 26) rfl) rfl
theorem q_616 : (Cond.code ⟨"MarriedStreets$Matcher", "prefers", "(LMarriedStreets$City;II)Z"⟩ prog_8_method_11_code 4 (Option.some FieldType.boolean)) ∈ wsG := inGw (inT3 (i := 27) rfl) rfl
theorem q_617 : (Cond.methodLink "MarriedStreetsLaw" 169 ⟨"MarriedStreets", "best", "()I"⟩) ∈ wsG := inGw (inT3 (i := 28) rfl) rfl
theorem q_618 : (Cond.instanceMethod ⟨"MarriedStreets", "best", "()I"⟩) ∈ wsG := inGw (inT3 (i := 29) rfl) rfl
theorem q_619 : (Cond.selects "MarriedStreets" ⟨"MarriedStreets", "best", "()I"⟩ ⟨"MarriedStreets", "best", "()I"⟩) ∈ wsG := inGw (inT3 (i := 30) rfl) rfl
theorem q_620 : (Cond.code ⟨"MarriedStreets", "best", "()I"⟩ prog_1_method_19_code 1 (Option.some FieldType.int)) ∈ wsG := inGw (inT3 (i := 31) rfl) rfl
theorem q_621 : (Cond.methodLink "MarriedStreetsLaw" 176 ⟨"MarriedStreets", "tempted", "()I"⟩) ∈ wsG := inGw (inT3 (i := 32) rfl) rfl
theorem q_622 : (Cond.instanceMethod ⟨"MarriedStreets", "tempted", "()I"⟩) ∈ wsG := inGw (inT3 (i := 33) rfl) rfl
theorem q_623 : (Cond.selects "MarriedStreets" ⟨"MarriedStreets", "tempted", "()I"⟩ ⟨"MarriedStreets", "tempted", "()I"⟩) ∈ wsG := inGw (inT3 (i := 34) rfl) rfl
theorem q_624 : (Cond.code ⟨"MarriedStreets", "tempted", "()I"⟩ prog_1_method_21_code 3 (Option.some FieldType.int)) ∈ wsG := inGw (inT3 (i := 35) rfl) rfl
theorem q_625 : (Cond.methodLink "MarriedStreets" 263 ⟨"MarriedStreets", "wouldLeave", "(II)Z"⟩) ∈ wsG := inGw (inT3 (i := 36) rfl) rfl
theorem q_627 : (Cond.instanceMethod ⟨"MarriedStreets", "wouldLeave", "(II)Z"⟩) ∈ wsG := inGw (inT3 (i := 38) rfl) rfl
theorem q_628 : (Cond.code ⟨"MarriedStreets", "wouldLeave", "(II)Z"⟩ prog_1_method_53_code 3 (Option.some FieldType.boolean)) ∈ wsG := inGw (inT3 (i := 39) rfl) rfl
theorem q_629 : (Cond.methodLink "MarriedStreets" 215 ⟨"MarriedStreets$Life", "mateOf", "(I)I"⟩) ∈ wsG := inGw (inT3 (i := 40) rfl) rfl
theorem q_630 : (Cond.methodLink "MarriedStreets" 227 ⟨"MarriedStreets$City", "liking", "(II)I"⟩) ∈ wsG := inGw (inT3 (i := 41) rfl) rfl
theorem q_631 : (Cond.methodLink "MarriedStreets" 231 ⟨"MarriedStreets$Law", "hindrance", "(LMarriedStreets$City;LMarriedStreets$Life;II)I"⟩) ∈ wsG := inGw (inT3 (i := 42) rfl) rfl
theorem q_632 : (Cond.methodLink "MarriedStreetsLaw" 195 ⟨"MarriedStreets", "even", "()I"⟩) ∈ wsG := inGw (inT3 (i := 43) rfl) rfl
theorem q_633 : (Cond.instanceMethod ⟨"MarriedStreets", "even", "()I"⟩) ∈ wsG := inGw (inT3 (i := 44) rfl) rfl
theorem q_634 : (Cond.selects "MarriedStreets" ⟨"MarriedStreets", "even", "()I"⟩ ⟨"MarriedStreets", "even", "()I"⟩) ∈ wsG := inGw (inT3 (i := 45) rfl) rfl
theorem q_635 : (Cond.code ⟨"MarriedStreets", "even", "()I"⟩ prog_1_method_27_code 5 (Option.some FieldType.int)) ∈ wsG := inGw (inT3 (i := 46) rfl) rfl
theorem q_636 : (Cond.methodLink "MarriedStreets" 281 ⟨"MarriedStreets$City", "worthToOne", "(I)I"⟩) ∈ wsG := inGw (inT3 (i := 47) rfl) rfl
theorem q_637 : (Cond.instanceMethod ⟨"MarriedStreets$City", "worthToOne", "(I)I"⟩) ∈ wsG := inGw (inT3 (i := 48) rfl) rfl
theorem q_638 : (Cond.selects "MarriedStreets$City" ⟨"MarriedStreets$City", "worthToOne", "(I)I"⟩ ⟨"MarriedStreets$City", "worthToOne", "(I)I"⟩) ∈ wsG := inGw (inT3 (i := 49) rfl) rfl
theorem q_639 : (Cond.code ⟨"MarriedStreets$City", "worthToOne", "(I)I"⟩ prog_2_method_29_code 2 (Option.some FieldType.int)) ∈ wsG := inGw (inT3 (i := 50) rfl) rfl
theorem q_640 : (Cond.methodLink "MarriedStreets$City" 189 ⟨"MarriedStreets$City", "worth", "([II)I"⟩) ∈ wsG := inGw (inT3 (i := 51) rfl) rfl
theorem q_642 : (Cond.instanceMethod ⟨"MarriedStreets$City", "worth", "([II)I"⟩) ∈ wsG := inGw (inT3 (i := 53) rfl) rfl
theorem q_643 : (Cond.code ⟨"MarriedStreets$City", "worth", "([II)I"⟩ prog_2_method_31_code 5 (Option.some FieldType.int)) ∈ wsG := inGw (inT3 (i := 54) rfl) rfl
theorem q_644 : (Cond.methodLink "MarriedStreets" 284 ⟨"MarriedStreets$City", "worthToOther", "(I)I"⟩) ∈ wsG := inGw (inT3 (i := 55) rfl) rfl
theorem q_645 : (Cond.instanceMethod ⟨"MarriedStreets$City", "worthToOther", "(I)I"⟩) ∈ wsG := inGw (inT3 (i := 56) rfl) rfl
theorem q_646 : (Cond.selects "MarriedStreets$City" ⟨"MarriedStreets$City", "worthToOther", "(I)I"⟩ ⟨"MarriedStreets$City", "worthToOther", "(I)I"⟩) ∈ wsG := inGw (inT3 (i := 57) rfl) rfl
theorem q_647 : (Cond.code ⟨"MarriedStreets$City", "worthToOther", "(I)I"⟩ prog_2_method_30_code 2 (Option.some FieldType.int)) ∈ wsG := inGw (inT3 (i := 58) rfl) rfl
theorem q_648 : (Cond.methodLink "MarriedStreets" 287 ⟨"java/lang/Math", "min", "(II)I"⟩) ∈ wsG := inGw (inT3 (i := 59) rfl) rfl
theorem q_649 : (Cond.methodLink "MarriedStreets" 292 ⟨"java/lang/Math", "max", "(II)I"⟩) ∈ wsG := inGw (inT3 (i := 60) rfl) rfl
theorem q_650 : (Cond.methodLink "MarriedStreetsLaw" 208 ⟨"MarriedStreets", "lane", "()I"⟩) ∈ wsG := inGw (inT3 (i := 61) rfl) rfl
theorem q_651 : (Cond.instanceMethod ⟨"MarriedStreets", "lane", "()I"⟩) ∈ wsG := inGw (inT3 (i := 62) rfl) rfl
theorem q_652 : (Cond.selects "MarriedStreets" ⟨"MarriedStreets", "lane", "()I"⟩ ⟨"MarriedStreets", "lane", "()I"⟩) ∈ wsG := inGw (inT3 (i := 63) rfl) rfl
theorem q_653 : (Cond.code ⟨"MarriedStreets", "lane", "()I"⟩ prog_1_method_31_code 2 (Option.some FieldType.int)) ∈ wsG := inGw (inT3 (i := 64) rfl) rfl
theorem q_654 : (Cond.methodLink "MarriedStreets" 181 ⟨"MarriedStreets$Life", "yearNow", "()I"⟩) ∈ wsG := inGw (inT3 (i := 65) rfl) rfl
theorem q_655 : (Cond.methodLink "MarriedStreets" 317 ⟨"MarriedStreets$City", "laneX", "(I)I"⟩) ∈ wsG := inGw (inT3 (i := 66) rfl) rfl
theorem q_656 : (Cond.instanceMethod ⟨"MarriedStreets$City", "laneX", "(I)I"⟩) ∈ wsG := inGw (inT3 (i := 67) rfl) rfl
theorem q_657 : (Cond.selects "MarriedStreets$City" ⟨"MarriedStreets$City", "laneX", "(I)I"⟩ ⟨"MarriedStreets$City", "laneX", "(I)I"⟩) ∈ wsG := inGw (inT3 (i := 68) rfl) rfl
theorem q_658 : (Cond.code ⟨"MarriedStreets$City", "laneX", "(I)I"⟩ prog_2_method_32_code 2 (Option.some FieldType.int)) ∈ wsG := inGw (inT3 (i := 69) rfl) rfl
theorem q_659 : (Cond.methodLink "MarriedStreetsLaw" 212 ⟨"MarriedStreets", "stop", "()I"⟩) ∈ wsG := inGw (inT3 (i := 70) rfl) rfl
theorem q_660 : (Cond.instanceMethod ⟨"MarriedStreets", "stop", "()I"⟩) ∈ wsG := inGw (inT3 (i := 71) rfl) rfl
theorem q_661 : (Cond.selects "MarriedStreets" ⟨"MarriedStreets", "stop", "()I"⟩ ⟨"MarriedStreets", "stop", "()I"⟩) ∈ wsG := inGw (inT3 (i := 72) rfl) rfl
theorem q_662 : (Cond.code ⟨"MarriedStreets", "stop", "()I"⟩ prog_1_method_32_code 5 (Option.some FieldType.int)) ∈ wsG := inGw (inT3 (i := 73) rfl) rfl
theorem q_663 : (Cond.methodLink "MarriedStreets" 323 ⟨"MarriedStreets", "lane", "()I"⟩) ∈ wsG := inGw (inT3 (i := 74) rfl) rfl
theorem q_664 : (Cond.methodLink "MarriedStreets" 326 ⟨"MarriedStreets$City", "laneY", "(I)I"⟩) ∈ wsG := inGw (inT3 (i := 75) rfl) rfl
theorem q_665 : (Cond.instanceMethod ⟨"MarriedStreets$City", "laneY", "(I)I"⟩) ∈ wsG := inGw (inT3 (i := 76) rfl) rfl
theorem q_666 : (Cond.selects "MarriedStreets$City" ⟨"MarriedStreets$City", "laneY", "(I)I"⟩ ⟨"MarriedStreets$City", "laneY", "(I)I"⟩) ∈ wsG := inGw (inT3 (i := 77) rfl) rfl
theorem q_667 : (Cond.code ⟨"MarriedStreets$City", "laneY", "(I)I"⟩ prog_2_method_33_code 2 (Option.some FieldType.int)) ∈ wsG := inGw (inT3 (i := 78) rfl) rfl
theorem q_668 : (Cond.methodLink "MarriedStreets" 329 ⟨"MarriedStreets$City", "cornersAt", "(II)I"⟩) ∈ wsG := inGw (inT3 (i := 79) rfl) rfl
theorem q_669 : (Cond.instanceMethod ⟨"MarriedStreets$City", "cornersAt", "(II)I"⟩) ∈ wsG := inGw (inT3 (i := 80) rfl) rfl
theorem q_670 : (Cond.selects "MarriedStreets$City" ⟨"MarriedStreets$City", "cornersAt", "(II)I"⟩ ⟨"MarriedStreets$City", "cornersAt", "(II)I"⟩) ∈ wsG := inGw (inT3 (i := 81) rfl) rfl
theorem q_671 : (Cond.code ⟨"MarriedStreets$City", "cornersAt", "(II)I"⟩ prog_2_method_34_code 5 (Option.some FieldType.int)) ∈ wsG := inGw (inT3 (i := 82) rfl) rfl
theorem q_672 : (Cond.methodLink "MarriedStreetsLaw" 234 ⟨"MarriedStreets", "image", "()I"⟩) ∈ wsG := inGw (inT3 (i := 83) rfl) rfl
theorem q_673 : (Cond.instanceMethod ⟨"MarriedStreets", "image", "()I"⟩) ∈ wsG := inGw (inT3 (i := 84) rfl) rfl
theorem q_674 : (Cond.selects "MarriedStreets" ⟨"MarriedStreets", "image", "()I"⟩ ⟨"MarriedStreets", "image", "()I"⟩) ∈ wsG := inGw (inT3 (i := 85) rfl) rfl
theorem q_675 : (Cond.code ⟨"MarriedStreets", "image", "()I"⟩ prog_1_method_38_code 1 (Option.some FieldType.int)) ∈ wsG := inGw (inT3 (i := 86) rfl) rfl
theorem q_676 : (Cond.methodLink "MarriedStreets" 367 ⟨"MarriedStreets$Ledger", "keepImage", "(LMarriedStreets$Life;)Z"⟩) ∈ wsG := inGw (inT3 (i := 87) rfl) rfl
theorem q_677 : (Cond.instanceMethod ⟨"MarriedStreets$Ledger", "keepImage", "(LMarriedStreets$Life;)Z"⟩) ∈ wsG := inGw (inT3 (i := 88) rfl) rfl
theorem q_678 : (Cond.selects "MarriedStreets$Ledger" ⟨"MarriedStreets$Ledger", "keepImage", "(LMarriedStreets$Life;)Z"⟩ ⟨"MarriedStreets$Ledger", "keepImage", "(LMarriedStreets$Life;)Z"⟩) ∈ wsG := inGw (inT3 (i := 89) rfl) rfl
theorem q_679 : (Cond.code ⟨"MarriedStreets$Ledger", "keepImage", "(LMarriedStreets$Life;)Z"⟩ prog_5_method_6_code 3 (Option.some FieldType.boolean)) ∈ wsG := inGw (inT3 (i := 90) rfl) rfl
theorem q_680 : (Cond.methodLink "MarriedStreets$Ledger" 32 ⟨"MarriedStreets$Rows", "put", "([III)V"⟩) ∈ wsG := inGw (inT3 (i := 91) rfl) rfl
theorem q_681 : (Cond.methodLink "MarriedStreets$Ledger" 25 ⟨"MarriedStreets$Life", "saveTo", "([II)V"⟩) ∈ wsG := inGw (inT3 (i := 92) rfl) rfl
theorem q_682 : (Cond.instanceMethod ⟨"MarriedStreets$Life", "saveTo", "([II)V"⟩) ∈ wsG := inGw (inT3 (i := 93) rfl) rfl
theorem q_683 : (Cond.selects "MarriedStreets$Life" ⟨"MarriedStreets$Life", "saveTo", "([II)V"⟩ ⟨"MarriedStreets$Life", "saveTo", "([II)V"⟩) ∈ wsG := inGw (inT3 (i := 94) rfl) rfl
theorem q_684 : (Cond.code ⟨"MarriedStreets$Life", "saveTo", "([II)V"⟩ prog_6_method_6_code 3 none) ∈ wsG := inGw (inT3 (i := 95) rfl) rfl
theorem q_685 : (Cond.methodLink "MarriedStreets$Ledger" 38 ⟨"MarriedStreets$Rows", "copy", "([II[III)V"⟩) ∈ wsG := inGw (inT3 (i := 96) rfl) rfl
theorem q_686 : (Cond.methodLink "MarriedStreetsLaw" 238 ⟨"MarriedStreets", "restore", "()I"⟩) ∈ wsG := inGw (inT3 (i := 97) rfl) rfl
theorem q_687 : (Cond.instanceMethod ⟨"MarriedStreets", "restore", "()I"⟩) ∈ wsG := inGw (inT3 (i := 98) rfl) rfl
theorem q_688 : (Cond.selects "MarriedStreets" ⟨"MarriedStreets", "restore", "()I"⟩ ⟨"MarriedStreets", "restore", "()I"⟩) ∈ wsG := inGw (inT3 (i := 99) rfl) rfl
theorem q_689 : (Cond.code ⟨"MarriedStreets", "restore", "()I"⟩ prog_1_method_39_code 1 (Option.some FieldType.int)) ∈ wsG := inGw (inT3 (i := 100) rfl) rfl
theorem q_690 : (Cond.methodLink "MarriedStreets" 373 ⟨"MarriedStreets$Ledger", "takeImageBack", "(LMarriedStreets$Life;)Z"⟩) ∈ wsG := inGw (inT3 (i := 101) rfl) rfl
theorem q_691 : (Cond.instanceMethod ⟨"MarriedStreets$Ledger", "takeImageBack", "(LMarriedStreets$Life;)Z"⟩) ∈ wsG := inGw (inT3 (i := 102) rfl) rfl
theorem q_692 : (Cond.selects "MarriedStreets$Ledger" ⟨"MarriedStreets$Ledger", "takeImageBack", "(LMarriedStreets$Life;)Z"⟩ ⟨"MarriedStreets$Ledger", "takeImageBack", "(LMarriedStreets$Life;)Z"⟩) ∈ wsG := inGw (inT3 (i := 103) rfl) rfl
theorem q_693 : (Cond.code ⟨"MarriedStreets$Ledger", "takeImageBack", "(LMarriedStreets$Life;)Z"⟩ prog_5_method_7_code 3 (Option.some FieldType.boolean)) ∈ wsG := inGw (inT3 (i := 104) rfl) rfl
theorem q_694 : (Cond.methodLink "MarriedStreets$Ledger" 42 ⟨"MarriedStreets$Rows", "at", "([II)I"⟩) ∈ wsG := inGw (inT3 (i := 105) rfl) rfl
theorem q_695 : (Cond.methodLink "MarriedStreetsLaw" 242 ⟨"MarriedStreets", "status", "(I)I"⟩) ∈ wsG := inGw (inT3 (i := 106) rfl) rfl
theorem q_696 : (Cond.instanceMethod ⟨"MarriedStreets", "status", "(I)I"⟩) ∈ wsG := inGw (inT3 (i := 107) rfl) rfl
theorem q_697 : (Cond.selects "MarriedStreets" ⟨"MarriedStreets", "status", "(I)I"⟩ ⟨"MarriedStreets", "status", "(I)I"⟩) ∈ wsG := inGw (inT3 (i := 108) rfl) rfl
theorem q_698 : (Cond.code ⟨"MarriedStreets", "status", "(I)I"⟩ prog_1_method_40_code 2 (Option.some FieldType.int)) ∈ wsG := inGw (inT3 (i := 109) rfl) rfl
theorem q_699 : (Cond.methodLink "MarriedStreetsLaw" 246 ⟨"MarriedStreets", "count", "(I)I"⟩) ∈ wsG := inGw (inT3 (i := 110) rfl) rfl
theorem q_700 : (Cond.instanceMethod ⟨"MarriedStreets", "count", "(I)I"⟩) ∈ wsG := inGw (inT3 (i := 111) rfl) rfl
theorem q_701 : (Cond.selects "MarriedStreets" ⟨"MarriedStreets", "count", "(I)I"⟩ ⟨"MarriedStreets", "count", "(I)I"⟩) ∈ wsG := inGw (inT3 (i := 112) rfl) rfl
theorem q_702 : (Cond.code ⟨"MarriedStreets", "count", "(I)I"⟩ prog_1_method_41_code 2 (Option.some FieldType.int)) ∈ wsG := inGw (inT3 (i := 113) rfl) rfl
theorem q_703 : (Cond.methodLink "MarriedStreetsLaw" 110 ⟨"MarriedStreetsLaw", "city", "(LMarriedStreets;I[J)I"⟩) ∈ wsG := inGw (inT3 (i := 114) rfl) rfl
theorem q_704 : (Cond.static ⟨"MarriedStreetsLaw", "city", "(LMarriedStreets;I[J)I"⟩) ∈ wsG := inGw (inT3 (i := 115) rfl) rfl
theorem q_705 : (Cond.codeWith ⟨"MarriedStreetsLaw", "city", "(LMarriedStreets;I[J)I"⟩ method_3_code 4 (Option.some FieldType.int) [(0, 9, 12, 13)]) ∈ wsG := inGw (inT3 (i := 116) rfl) rfl
theorem q_706 : (Cond.classLink "MarriedStreetsLaw" 13 "java/lang/IllegalArgumentException") ∈ wsG := inGw (inT3 (i := 117) rfl) rfl
theorem q_707 : (Cond.methodLink "MarriedStreetsLaw" 7 ⟨"MarriedStreets", "city", "(I)I"⟩) ∈ wsG := inGw (inT3 (i := 118) rfl) rfl
theorem q_708 : (Cond.instanceMethod ⟨"MarriedStreets", "city", "(I)I"⟩) ∈ wsG := inGw (inT3 (i := 119) rfl) rfl
theorem q_709 : (Cond.selects "MarriedStreets" ⟨"MarriedStreets", "city", "(I)I"⟩ ⟨"MarriedStreets", "city", "(I)I"⟩) ∈ wsG := inGw (inT3 (i := 120) rfl) rfl
theorem q_710 : (Cond.code ⟨"MarriedStreets", "city", "(I)I"⟩ prog_1_method_3_code 3 (Option.some FieldType.int)) ∈ wsG := inGw (inT3 (i := 121) rfl) rfl
theorem q_711 : (Cond.methodLink "MarriedStreets" 109 ⟨"MarriedStreets", "openText", "(II)V"⟩) ∈ wsG := inGw (inT3 (i := 122) rfl) rfl
theorem q_713 : (Cond.instanceMethod ⟨"MarriedStreets", "openText", "(II)V"⟩) ∈ wsG := inGw (inT3 (i := 124) rfl) rfl
theorem q_714 : (Cond.code ⟨"MarriedStreets", "openText", "(II)V"⟩ prog_1_method_43_code 3 none) ∈ wsG := inGw (inT3 (i := 125) rfl) rfl
theorem q_715 : (Cond.methodLink "MarriedStreets" 171 ⟨"MarriedStreets", "need", "(Z)V"⟩) ∈ wsG := inGw (inT3 (i := 126) rfl) rfl
theorem q_717 : (Cond.instanceMethod ⟨"MarriedStreets", "need", "(Z)V"⟩) ∈ wsG := inGw (inT3 (i := 128) rfl) rfl
theorem q_718 : (Cond.code ⟨"MarriedStreets", "need", "(Z)V"⟩ prog_1_method_44_code 2 none) ∈ wsG := inGw (inT3 (i := 129) rfl) rfl
theorem q_719 : (Cond.classLink "MarriedStreets" 388 "java/lang/IllegalArgumentException") ∈ wsG := inGw (inT3 (i := 130) rfl) rfl
theorem q_721 : (Cond.castable "java/lang/IllegalArgumentException" "java/lang/IllegalArgumentException") ∈ wsN := inNw (inT3 (i := 132) rfl) rfl
theorem q_786 : (Cond.methodLink "MarriedStreets" 385 ⟨"MarriedStreets$Text", "open", "(I)V"⟩) ∈ wsG := inGw (inT3 (i := 197) rfl) rfl
theorem q_787 : (Cond.instanceMethod ⟨"MarriedStreets$Text", "open", "(I)V"⟩) ∈ wsG := inGw (inT3 (i := 198) rfl) rfl
theorem q_788 : (Cond.selects "MarriedStreets$Text" ⟨"MarriedStreets$Text", "open", "(I)V"⟩ ⟨"MarriedStreets$Text", "open", "(I)V"⟩) ∈ wsG := inGw (inT3 (i := 199) rfl) rfl
theorem q_789 : (Cond.code ⟨"MarriedStreets$Text", "open", "(I)V"⟩ prog_12_method_2_code 2 none) ∈ wsG := inGw (inT3 (i := 200) rfl) rfl
theorem q_790 : (Cond.methodLink "MarriedStreets$Text" 19 ⟨"java/lang/Math", "min", "(II)I"⟩) ∈ wsG := inGw (inT3 (i := 201) rfl) rfl
theorem q_791 : (Cond.methodLink "MarriedStreets" 113 ⟨"MarriedStreets$City", "readAll", "(LMarriedStreets$Text;)Z"⟩) ∈ wsG := inGw (inT3 (i := 202) rfl) rfl
theorem q_792 : (Cond.instanceMethod ⟨"MarriedStreets$City", "readAll", "(LMarriedStreets$Text;)Z"⟩) ∈ wsG := inGw (inT3 (i := 203) rfl) rfl
theorem q_793 : (Cond.selects "MarriedStreets$City" ⟨"MarriedStreets$City", "readAll", "(LMarriedStreets$Text;)Z"⟩ ⟨"MarriedStreets$City", "readAll", "(LMarriedStreets$Text;)Z"⟩) ∈ wsG := inGw (inT3 (i := 204) rfl) rfl
theorem q_794 : (Cond.code ⟨"MarriedStreets$City", "readAll", "(LMarriedStreets$Text;)Z"⟩ prog_2_method_3_code 3 (Option.some FieldType.boolean)) ∈ wsG := inGw (inT3 (i := 205) rfl) rfl
theorem q_795 : (Cond.methodLink "MarriedStreets$City" 71 ⟨"MarriedStreets$Text", "atEnd", "()Z"⟩) ∈ wsG := inGw (inT3 (i := 206) rfl) rfl
theorem q_796 : (Cond.instanceMethod ⟨"MarriedStreets$Text", "atEnd", "()Z"⟩) ∈ wsG := inGw (inT3 (i := 207) rfl) rfl
theorem q_797 : (Cond.selects "MarriedStreets$Text" ⟨"MarriedStreets$Text", "atEnd", "()Z"⟩ ⟨"MarriedStreets$Text", "atEnd", "()Z"⟩) ∈ wsG := inGw (inT3 (i := 208) rfl) rfl
theorem q_798 : (Cond.code ⟨"MarriedStreets$Text", "atEnd", "()Z"⟩ prog_12_method_5_code 1 (Option.some FieldType.boolean)) ∈ wsG := inGw (inT3 (i := 209) rfl) rfl
theorem q_799 : (Cond.methodLink "MarriedStreets$Text" 37 ⟨"MarriedStreets$Text", "skipBlanks", "()V"⟩) ∈ wsG := inGw (inT3 (i := 210) rfl) rfl
theorem q_801 : (Cond.instanceMethod ⟨"MarriedStreets$Text", "skipBlanks", "()V"⟩) ∈ wsG := inGw (inT3 (i := 212) rfl) rfl
theorem q_802 : (Cond.code ⟨"MarriedStreets$Text", "skipBlanks", "()V"⟩ prog_12_method_12_code 1 none) ∈ wsG := inGw (inT3 (i := 213) rfl) rfl
theorem q_803 : (Cond.methodLink "MarriedStreets$City" 77 ⟨"MarriedStreets$City", "readClause", "(LMarriedStreets$Text;I)Z"⟩) ∈ wsG := inGw (inT3 (i := 214) rfl) rfl
theorem q_805 : (Cond.instanceMethod ⟨"MarriedStreets$City", "readClause", "(LMarriedStreets$Text;I)Z"⟩) ∈ wsG := inGw (inT3 (i := 216) rfl) rfl
theorem q_806 : (Cond.code ⟨"MarriedStreets$City", "readClause", "(LMarriedStreets$Text;I)Z"⟩ prog_2_method_4_code 5 (Option.some FieldType.boolean)) ∈ wsG := inGw (inT3 (i := 217) rfl) rfl
theorem q_807 : (Cond.methodLink "MarriedStreets$City" 81 ⟨"MarriedStreets$Text", "readWord", "()V"⟩) ∈ wsG := inGw (inT3 (i := 218) rfl) rfl
theorem q_808 : (Cond.instanceMethod ⟨"MarriedStreets$Text", "readWord", "()V"⟩) ∈ wsG := inGw (inT3 (i := 219) rfl) rfl
theorem q_809 : (Cond.selects "MarriedStreets$Text" ⟨"MarriedStreets$Text", "readWord", "()V"⟩ ⟨"MarriedStreets$Text", "readWord", "()V"⟩) ∈ wsG := inGw (inT3 (i := 220) rfl) rfl
theorem q_810 : (Cond.code ⟨"MarriedStreets$Text", "readWord", "()V"⟩ prog_12_method_10_code 1 none) ∈ wsG := inGw (inT3 (i := 221) rfl) rfl
theorem q_811 : (Cond.methodLink "MarriedStreets$Text" 40 ⟨"MarriedStreets$Text", "byteAt", "(I)I"⟩) ∈ wsG := inGw (inT3 (i := 222) rfl) rfl
theorem q_813 : (Cond.instanceMethod ⟨"MarriedStreets$Text", "byteAt", "(I)I"⟩) ∈ wsG := inGw (inT3 (i := 224) rfl) rfl
theorem q_814 : (Cond.code ⟨"MarriedStreets$Text", "byteAt", "(I)I"⟩ prog_12_method_13_code 2 (Option.some FieldType.int)) ∈ wsG := inGw (inT3 (i := 225) rfl) rfl
theorem q_815 : (Cond.methodLink "MarriedStreets$Text" 52 ⟨"MarriedStreets$Text", "isLetter", "(I)Z"⟩) ∈ wsG := inGw (inT3 (i := 226) rfl) rfl
theorem q_816 : (Cond.static ⟨"MarriedStreets$Text", "isLetter", "(I)Z"⟩) ∈ wsG := inGw (inT3 (i := 227) rfl) rfl
theorem q_817 : (Cond.code ⟨"MarriedStreets$Text", "isLetter", "(I)Z"⟩ prog_12_method_15_code 1 (Option.some FieldType.boolean)) ∈ wsG := inGw (inT3 (i := 228) rfl) rfl
theorem q_818 : (Cond.methodLink "MarriedStreets$City" 84 ⟨"MarriedStreets$City", "kindOf", "(LMarriedStreets$Text;)I"⟩) ∈ wsG := inGw (inT3 (i := 229) rfl) rfl
theorem q_819 : (Cond.static ⟨"MarriedStreets$City", "kindOf", "(LMarriedStreets$Text;)I"⟩) ∈ wsG := inGw (inT3 (i := 230) rfl) rfl
theorem q_820 : (Cond.code ⟨"MarriedStreets$City", "kindOf", "(LMarriedStreets$Text;)I"⟩ prog_2_method_5_code 1 (Option.some FieldType.int)) ∈ wsG := inGw (inT3 (i := 231) rfl) rfl
theorem q_822 : (Cond.methodLink "MarriedStreets$City" 123 ⟨"MarriedStreets$Text", "wordIs", "(Ljava/lang/String;)Z"⟩) ∈ wsG := inGw (inT3 (i := 233) rfl) rfl
theorem q_823 : (Cond.instanceMethod ⟨"MarriedStreets$Text", "wordIs", "(Ljava/lang/String;)Z"⟩) ∈ wsG := inGw (inT3 (i := 234) rfl) rfl
theorem q_824 : (Cond.selects "MarriedStreets$Text" ⟨"MarriedStreets$Text", "wordIs", "(Ljava/lang/String;)Z"⟩ ⟨"MarriedStreets$Text", "wordIs", "(Ljava/lang/String;)Z"⟩) ∈ wsG := inGw (inT3 (i := 235) rfl) rfl
theorem q_825 : (Cond.code ⟨"MarriedStreets$Text", "wordIs", "(Ljava/lang/String;)Z"⟩ prog_12_method_11_code 3 (Option.some FieldType.boolean)) ∈ wsG := inGw (inT3 (i := 236) rfl) rfl
theorem q_826 : (Cond.methodLink "MarriedStreets$Text" 55 ⟨"java/lang/String", "length", "()I"⟩) ∈ wsG := inGw (inT3 (i := 237) rfl) rfl
theorem q_827 : (Cond.instanceMethod ⟨"java/lang/String", "length", "()I"⟩) ∈ wsG := inGw (inT3 (i := 238) rfl) rfl
theorem q_828 : (Cond.selects "java/lang/String" ⟨"java/lang/String", "length", "()I"⟩ ⟨"java/lang/String", "length", "()I"⟩) ∈ wsG := inGw (inT3 (i := 239) rfl) rfl
theorem q_829 : (Cond.code ⟨"java/lang/String", "length", "()I"⟩ prog_24_method_54_code 1 (Option.some FieldType.int)) ∈ wsG := inGw (inT4 (i := 0) rfl) rfl
theorem q_830 : (Cond.methodLink "java/lang/String" 335 ⟨"java/lang/String", "coder", "()B"⟩) ∈ wsG := inGw (inT4 (i := 1) rfl) rfl
theorem q_831 : (Cond.instanceMethod ⟨"java/lang/String", "coder", "()B"⟩) ∈ wsG := inGw (inT4 (i := 2) rfl) rfl
theorem q_832 : (Cond.selects "java/lang/String" ⟨"java/lang/String", "coder", "()B"⟩ ⟨"java/lang/String", "coder", "()B"⟩) ∈ wsG := inGw (inT4 (i := 3) rfl) rfl
theorem q_833 : (Cond.code ⟨"java/lang/String", "coder", "()B"⟩ prog_24_method_152_code 1 (Option.some FieldType.byte)) ∈ wsG := inGw (inT4 (i := 4) rfl) rfl
theorem q_834 : (Cond.fieldLink "java/lang/String" 38 "java/lang/String" "COMPACT_STRINGS" "Z") ∈ wsG := inGw (inT4 (i := 5) rfl) rfl
theorem q_836 : (Cond.methodLink "MarriedStreets$Text" 60 ⟨"java/lang/String", "charAt", "(I)C"⟩) ∈ wsG := inGw (inT4 (i := 7) rfl) rfl
theorem q_837 : (Cond.instanceMethod ⟨"java/lang/String", "charAt", "(I)C"⟩) ∈ wsG := inGw (inT4 (i := 8) rfl) rfl
theorem q_838 : (Cond.selects "java/lang/String" ⟨"java/lang/String", "charAt", "(I)C"⟩ ⟨"java/lang/String", "charAt", "(I)C"⟩) ∈ wsG := inGw (inT4 (i := 9) rfl) rfl
theorem q_839 : (Cond.code ⟨"java/lang/String", "charAt", "(I)C"⟩ prog_24_method_56_code 2 (Option.some FieldType.char)) ∈ wsG := inGw (inT4 (i := 10) rfl) rfl
theorem q_840 : (Cond.methodLink "java/lang/String" 492 ⟨"java/lang/String", "isLatin1", "()Z"⟩) ∈ wsG := inGw (inT4 (i := 11) rfl) rfl
theorem q_841 : (Cond.instanceMethod ⟨"java/lang/String", "isLatin1", "()Z"⟩) ∈ wsG := inGw (inT4 (i := 12) rfl) rfl
theorem q_842 : (Cond.selects "java/lang/String" ⟨"java/lang/String", "isLatin1", "()Z"⟩ ⟨"java/lang/String", "isLatin1", "()Z"⟩) ∈ wsG := inGw (inT4 (i := 13) rfl) rfl
theorem q_843 : (Cond.code ⟨"java/lang/String", "isLatin1", "()Z"⟩ prog_24_method_154_code 1 (Option.some FieldType.boolean)) ∈ wsG := inGw (inT4 (i := 14) rfl) rfl
theorem q_844 : (Cond.methodLink "java/lang/String" 495 ⟨"java/lang/StringLatin1", "charAt", "([BI)C"⟩) ∈ wsG := inGw (inT4 (i := 15) rfl) rfl
theorem q_845 : (Cond.static ⟨"java/lang/StringLatin1", "charAt", "([BI)C"⟩) ∈ wsG := inGw (inT4 (i := 16) rfl) rfl
theorem q_846 : (Cond.code ⟨"java/lang/StringLatin1", "charAt", "([BI)C"⟩ prog_25_method_2_code 2 (Option.some FieldType.char)) ∈ wsG := inGw (inT4 (i := 17) rfl) rfl
theorem q_847 : (Cond.methodLink "java/lang/StringLatin1" 9 ⟨"java/lang/String", "checkIndex", "(II)V"⟩) ∈ wsG := inGw (inT4 (i := 18) rfl) rfl
theorem q_848 : (Cond.static ⟨"java/lang/String", "checkIndex", "(II)V"⟩) ∈ wsG := inGw (inT4 (i := 19) rfl) rfl
theorem q_849 : (Cond.code ⟨"java/lang/String", "checkIndex", "(II)V"⟩ prog_24_method_155_code 2 none) ∈ wsG := inGw (inT4 (i := 20) rfl) rfl
theorem q_850 : (Cond.fieldLink "java/lang/String" 1053 "jdk/internal/util/Preconditions" "SIOOBE_FORMATTER" "Ljava/util/function/BiFunction;") ∈ wsG := inGw (inT4 (i := 21) rfl) rfl
theorem q_852 : (Cond.methodLink "java/lang/String" 1059 ⟨"jdk/internal/util/Preconditions", "checkIndex", "(IILjava/util/function/BiFunction;)I"⟩) ∈ wsG := inGw (inT4 (i := 23) rfl) rfl
theorem q_853 : (Cond.static ⟨"jdk/internal/util/Preconditions", "checkIndex", "(IILjava/util/function/BiFunction;)I"⟩) ∈ wsG := inGw (inT4 (i := 24) rfl) rfl
theorem q_854 : (Cond.code ⟨"jdk/internal/util/Preconditions", "checkIndex", "(IILjava/util/function/BiFunction;)I"⟩ prog_31_method_11_code 3 (Option.some FieldType.int)) ∈ wsG := inGw (inT4 (i := 25) rfl) rfl
theorem q_880 : (Cond.methodLink "MarriedStreets$City" 88 ⟨"MarriedStreets$Text", "mark", "(I)Z"⟩) ∈ wsG := inGw (inT4 (i := 51) rfl) rfl
theorem q_881 : (Cond.instanceMethod ⟨"MarriedStreets$Text", "mark", "(I)Z"⟩) ∈ wsG := inGw (inT4 (i := 52) rfl) rfl
theorem q_882 : (Cond.selects "MarriedStreets$Text" ⟨"MarriedStreets$Text", "mark", "(I)Z"⟩ ⟨"MarriedStreets$Text", "mark", "(I)Z"⟩) ∈ wsG := inGw (inT4 (i := 53) rfl) rfl
theorem q_883 : (Cond.code ⟨"MarriedStreets$Text", "mark", "(I)Z"⟩ prog_12_method_4_code 2 (Option.some FieldType.boolean)) ∈ wsG := inGw (inT4 (i := 54) rfl) rfl
theorem q_884 : (Cond.methodLink "MarriedStreets$City" 92 ⟨"MarriedStreets$City", "isFull", "(I)Z"⟩) ∈ wsG := inGw (inT4 (i := 55) rfl) rfl
theorem q_886 : (Cond.instanceMethod ⟨"MarriedStreets$City", "isFull", "(I)Z"⟩) ∈ wsG := inGw (inT4 (i := 57) rfl) rfl
theorem q_887 : (Cond.code ⟨"MarriedStreets$City", "isFull", "(I)Z"⟩ prog_2_method_6_code 2 (Option.some FieldType.boolean)) ∈ wsG := inGw (inT4 (i := 58) rfl) rfl
theorem q_888 : (Cond.methodLink "MarriedStreets$City" 95 ⟨"MarriedStreets$City", "readCorner", "(LMarriedStreets$Text;)Z"⟩) ∈ wsG := inGw (inT4 (i := 59) rfl) rfl
theorem q_890 : (Cond.instanceMethod ⟨"MarriedStreets$City", "readCorner", "(LMarriedStreets$Text;)Z"⟩) ∈ wsG := inGw (inT4 (i := 61) rfl) rfl
theorem q_891 : (Cond.code ⟨"MarriedStreets$City", "readCorner", "(LMarriedStreets$Text;)Z"⟩ prog_2_method_7_code 4 (Option.some FieldType.boolean)) ∈ wsG := inGw (inT4 (i := 62) rfl) rfl
theorem q_892 : (Cond.methodLink "MarriedStreets$City" 138 ⟨"MarriedStreets$Text", "readNumber", "(II)I"⟩) ∈ wsG := inGw (inT4 (i := 63) rfl) rfl
theorem q_893 : (Cond.instanceMethod ⟨"MarriedStreets$Text", "readNumber", "(II)I"⟩) ∈ wsG := inGw (inT4 (i := 64) rfl) rfl
theorem q_894 : (Cond.selects "MarriedStreets$Text" ⟨"MarriedStreets$Text", "readNumber", "(II)I"⟩ ⟨"MarriedStreets$Text", "readNumber", "(II)I"⟩) ∈ wsG := inGw (inT4 (i := 65) rfl) rfl
theorem q_895 : (Cond.code ⟨"MarriedStreets$Text", "readNumber", "(II)I"⟩ prog_12_method_9_code 4 (Option.some FieldType.int)) ∈ wsG := inGw (inT4 (i := 66) rfl) rfl
theorem q_896 : (Cond.methodLink "MarriedStreets$Text" 44 ⟨"MarriedStreets$Text", "isDigit", "(I)Z"⟩) ∈ wsG := inGw (inT4 (i := 67) rfl) rfl
theorem q_897 : (Cond.static ⟨"MarriedStreets$Text", "isDigit", "(I)Z"⟩) ∈ wsG := inGw (inT4 (i := 68) rfl) rfl
theorem q_898 : (Cond.code ⟨"MarriedStreets$Text", "isDigit", "(I)Z"⟩ prog_12_method_14_code 1 (Option.some FieldType.boolean)) ∈ wsG := inGw (inT4 (i := 69) rfl) rfl
theorem q_899 : (Cond.constant "MarriedStreets$Text" 51 100000) ∈ wsG := inGw (inT4 (i := 70) rfl) rfl
theorem q_900 : (Cond.methodLink "MarriedStreets$Text" 48 ⟨"MarriedStreets$Text", "mark", "(I)Z"⟩) ∈ wsG := inGw (inT4 (i := 71) rfl) rfl
theorem q_901 : (Cond.methodLink "MarriedStreets$City" 142 ⟨"MarriedStreets$City", "addCorner", "(II)V"⟩) ∈ wsG := inGw (inT4 (i := 72) rfl) rfl
theorem q_902 : (Cond.instanceMethod ⟨"MarriedStreets$City", "addCorner", "(II)V"⟩) ∈ wsG := inGw (inT4 (i := 73) rfl) rfl
theorem q_903 : (Cond.selects "MarriedStreets$City" ⟨"MarriedStreets$City", "addCorner", "(II)V"⟩ ⟨"MarriedStreets$City", "addCorner", "(II)V"⟩) ∈ wsG := inGw (inT4 (i := 74) rfl) rfl
theorem q_904 : (Cond.code ⟨"MarriedStreets$City", "addCorner", "(II)V"⟩ prog_2_method_15_code 3 none) ∈ wsG := inGw (inT4 (i := 75) rfl) rfl
theorem q_905 : (Cond.methodLink "MarriedStreets$City" 163 ⟨"MarriedStreets$Rows", "put", "([III)V"⟩) ∈ wsG := inGw (inT4 (i := 76) rfl) rfl
theorem q_906 : (Cond.methodLink "MarriedStreets$City" 99 ⟨"MarriedStreets$City", "readStreet", "(LMarriedStreets$Text;)Z"⟩) ∈ wsG := inGw (inT4 (i := 77) rfl) rfl
theorem q_908 : (Cond.instanceMethod ⟨"MarriedStreets$City", "readStreet", "(LMarriedStreets$Text;)Z"⟩) ∈ wsG := inGw (inT4 (i := 79) rfl) rfl
theorem q_909 : (Cond.code ⟨"MarriedStreets$City", "readStreet", "(LMarriedStreets$Text;)Z"⟩ prog_2_method_8_code 6 (Option.some FieldType.boolean)) ∈ wsG := inGw (inT4 (i := 80) rfl) rfl
theorem q_910 : (Cond.methodLink "MarriedStreets$City" 146 ⟨"MarriedStreets$City", "another", "(LMarriedStreets$Text;II)I"⟩) ∈ wsG := inGw (inT4 (i := 81) rfl) rfl
theorem q_911 : (Cond.static ⟨"MarriedStreets$City", "another", "(LMarriedStreets$Text;II)I"⟩) ∈ wsG := inGw (inT4 (i := 82) rfl) rfl
theorem q_912 : (Cond.code ⟨"MarriedStreets$City", "another", "(LMarriedStreets$Text;II)I"⟩ prog_2_method_14_code 4 (Option.some FieldType.int)) ∈ wsG := inGw (inT4 (i := 83) rfl) rfl
theorem q_913 : (Cond.methodLink "MarriedStreets$City" 150 ⟨"MarriedStreets$City", "addStreet", "(IIII)V"⟩) ∈ wsG := inGw (inT4 (i := 84) rfl) rfl
theorem q_914 : (Cond.instanceMethod ⟨"MarriedStreets$City", "addStreet", "(IIII)V"⟩) ∈ wsG := inGw (inT4 (i := 85) rfl) rfl
theorem q_915 : (Cond.selects "MarriedStreets$City" ⟨"MarriedStreets$City", "addStreet", "(IIII)V"⟩ ⟨"MarriedStreets$City", "addStreet", "(IIII)V"⟩) ∈ wsG := inGw (inT4 (i := 86) rfl) rfl
theorem q_916 : (Cond.code ⟨"MarriedStreets$City", "addStreet", "(IIII)V"⟩ prog_2_method_16_code 5 none) ∈ wsG := inGw (inT4 (i := 87) rfl) rfl
theorem q_917 : (Cond.methodLink "MarriedStreets$City" 171 ⟨"java/lang/Math", "abs", "(I)I"⟩) ∈ wsG := inGw (inT4 (i := 88) rfl) rfl
theorem q_918 : (Cond.static ⟨"java/lang/Math", "abs", "(I)I"⟩) ∈ wsG := inGw (inT4 (i := 89) rfl) rfl
theorem q_919 : (Cond.code ⟨"java/lang/Math", "abs", "(I)I"⟩ prog_22_method_59_code 1 (Option.some FieldType.int)) ∈ wsG := inGw (inT4 (i := 90) rfl) rfl
theorem q_920 : (Cond.methodLink "MarriedStreets$City" 102 ⟨"MarriedStreets$City", "readLikes", "(LMarriedStreets$Text;)Z"⟩) ∈ wsG := inGw (inT4 (i := 91) rfl) rfl
theorem q_922 : (Cond.instanceMethod ⟨"MarriedStreets$City", "readLikes", "(LMarriedStreets$Text;)Z"⟩) ∈ wsG := inGw (inT4 (i := 93) rfl) rfl
theorem q_923 : (Cond.code ⟨"MarriedStreets$City", "readLikes", "(LMarriedStreets$Text;)Z"⟩ prog_2_method_9_code 5 (Option.some FieldType.boolean)) ∈ wsG := inGw (inT4 (i := 94) rfl) rfl
theorem q_924 : (Cond.methodLink "MarriedStreets$City" 153 ⟨"MarriedStreets$City", "setLiking", "(III)V"⟩) ∈ wsG := inGw (inT4 (i := 95) rfl) rfl
theorem q_925 : (Cond.instanceMethod ⟨"MarriedStreets$City", "setLiking", "(III)V"⟩) ∈ wsG := inGw (inT4 (i := 96) rfl) rfl
theorem q_926 : (Cond.selects "MarriedStreets$City" ⟨"MarriedStreets$City", "setLiking", "(III)V"⟩ ⟨"MarriedStreets$City", "setLiking", "(III)V"⟩) ∈ wsG := inGw (inT4 (i := 97) rfl) rfl
theorem q_927 : (Cond.code ⟨"MarriedStreets$City", "setLiking", "(III)V"⟩ prog_2_method_18_code 4 none) ∈ wsG := inGw (inT4 (i := 98) rfl) rfl
theorem q_928 : (Cond.methodLink "MarriedStreets$City" 105 ⟨"MarriedStreets$City", "readNever", "(LMarriedStreets$Text;)Z"⟩) ∈ wsG := inGw (inT4 (i := 99) rfl) rfl
theorem q_930 : (Cond.instanceMethod ⟨"MarriedStreets$City", "readNever", "(LMarriedStreets$Text;)Z"⟩) ∈ wsG := inGw (inT4 (i := 101) rfl) rfl
theorem q_931 : (Cond.code ⟨"MarriedStreets$City", "readNever", "(LMarriedStreets$Text;)Z"⟩ prog_2_method_10_code 4 (Option.some FieldType.boolean)) ∈ wsG := inGw (inT4 (i := 102) rfl) rfl
theorem q_932 : (Cond.methodLink "MarriedStreets$City" 157 ⟨"MarriedStreets$City", "forbid", "(II)V"⟩) ∈ wsG := inGw (inT4 (i := 103) rfl) rfl
theorem q_933 : (Cond.instanceMethod ⟨"MarriedStreets$City", "forbid", "(II)V"⟩) ∈ wsG := inGw (inT4 (i := 104) rfl) rfl
theorem q_934 : (Cond.selects "MarriedStreets$City" ⟨"MarriedStreets$City", "forbid", "(II)V"⟩ ⟨"MarriedStreets$City", "forbid", "(II)V"⟩) ∈ wsG := inGw (inT4 (i := 105) rfl) rfl
theorem q_935 : (Cond.code ⟨"MarriedStreets$City", "forbid", "(II)V"⟩ prog_2_method_19_code 3 none) ∈ wsG := inGw (inT4 (i := 106) rfl) rfl
theorem q_936 : (Cond.methodLink "MarriedStreets$City" 108 ⟨"MarriedStreets$City", "readGood", "(LMarriedStreets$Text;)Z"⟩) ∈ wsG := inGw (inT4 (i := 107) rfl) rfl
theorem q_938 : (Cond.instanceMethod ⟨"MarriedStreets$City", "readGood", "(LMarriedStreets$Text;)Z"⟩) ∈ wsG := inGw (inT4 (i := 109) rfl) rfl
theorem q_939 : (Cond.code ⟨"MarriedStreets$City", "readGood", "(LMarriedStreets$Text;)Z"⟩ prog_2_method_11_code 4 (Option.some FieldType.boolean)) ∈ wsG := inGw (inT4 (i := 110) rfl) rfl
theorem q_940 : (Cond.methodLink "MarriedStreets$City" 160 ⟨"MarriedStreets$City", "addGood", "(II)V"⟩) ∈ wsG := inGw (inT4 (i := 111) rfl) rfl
theorem q_941 : (Cond.instanceMethod ⟨"MarriedStreets$City", "addGood", "(II)V"⟩) ∈ wsG := inGw (inT4 (i := 112) rfl) rfl
theorem q_942 : (Cond.selects "MarriedStreets$City" ⟨"MarriedStreets$City", "addGood", "(II)V"⟩ ⟨"MarriedStreets$City", "addGood", "(II)V"⟩) ∈ wsG := inGw (inT4 (i := 113) rfl) rfl
theorem q_943 : (Cond.code ⟨"MarriedStreets$City", "addGood", "(II)V"⟩ prog_2_method_17_code 3 none) ∈ wsG := inGw (inT4 (i := 114) rfl) rfl
theorem q_944 : (Cond.methodLink "MarriedStreets$City" 111 ⟨"MarriedStreets$City", "readLane", "(LMarriedStreets$Text;)Z"⟩) ∈ wsG := inGw (inT4 (i := 115) rfl) rfl
theorem q_946 : (Cond.instanceMethod ⟨"MarriedStreets$City", "readLane", "(LMarriedStreets$Text;)Z"⟩) ∈ wsG := inGw (inT4 (i := 117) rfl) rfl
theorem q_947 : (Cond.code ⟨"MarriedStreets$City", "readLane", "(LMarriedStreets$Text;)Z"⟩ prog_2_method_12_code 6 (Option.some FieldType.boolean)) ∈ wsG := inGw (inT4 (i := 118) rfl) rfl
theorem q_948 : (Cond.methodLink "MarriedStreets$City" 114 ⟨"MarriedStreets$City", "readRiver", "(LMarriedStreets$Text;)Z"⟩) ∈ wsG := inGw (inT4 (i := 119) rfl) rfl
theorem q_950 : (Cond.instanceMethod ⟨"MarriedStreets$City", "readRiver", "(LMarriedStreets$Text;)Z"⟩) ∈ wsG := inGw (inT4 (i := 121) rfl) rfl
theorem q_951 : (Cond.code ⟨"MarriedStreets$City", "readRiver", "(LMarriedStreets$Text;)Z"⟩ prog_2_method_13_code 3 (Option.some FieldType.boolean)) ∈ wsG := inGw (inT4 (i := 122) rfl) rfl
theorem q_952 : (Cond.methodLink "MarriedStreets$City" 117 ⟨"MarriedStreets$Text", "take", "(C)Z"⟩) ∈ wsG := inGw (inT4 (i := 123) rfl) rfl
theorem q_953 : (Cond.instanceMethod ⟨"MarriedStreets$Text", "take", "(C)Z"⟩) ∈ wsG := inGw (inT4 (i := 124) rfl) rfl
theorem q_954 : (Cond.selects "MarriedStreets$Text" ⟨"MarriedStreets$Text", "take", "(C)Z"⟩ ⟨"MarriedStreets$Text", "take", "(C)Z"⟩) ∈ wsG := inGw (inT4 (i := 125) rfl) rfl
theorem q_955 : (Cond.code ⟨"MarriedStreets$Text", "take", "(C)Z"⟩ prog_12_method_8_code 2 (Option.some FieldType.boolean)) ∈ wsG := inGw (inT4 (i := 126) rfl) rfl
theorem q_956 : (Cond.methodLink "MarriedStreets" 117 ⟨"MarriedStreets$Text", "answer", "()I"⟩) ∈ wsG := inGw (inT4 (i := 127) rfl) rfl
theorem q_957 : (Cond.instanceMethod ⟨"MarriedStreets$Text", "answer", "()I"⟩) ∈ wsG := inGw (inT4 (i := 128) rfl) rfl
theorem q_958 : (Cond.selects "MarriedStreets$Text" ⟨"MarriedStreets$Text", "answer", "()I"⟩ ⟨"MarriedStreets$Text", "answer", "()I"⟩) ∈ wsG := inGw (inT4 (i := 129) rfl) rfl
theorem q_959 : (Cond.code ⟨"MarriedStreets$Text", "answer", "()I"⟩ prog_12_method_3_code 1 (Option.some FieldType.int)) ∈ wsG := inGw (inT4 (i := 130) rfl) rfl
theorem q_960 : (Cond.methodLink "MarriedStreets" 121 ⟨"MarriedStreets$Law", "clear", "()V"⟩) ∈ wsG := inGw (inT4 (i := 131) rfl) rfl
theorem q_961 : (Cond.instanceMethod ⟨"MarriedStreets$Law", "clear", "()V"⟩) ∈ wsG := inGw (inT4 (i := 132) rfl) rfl
theorem q_962 : (Cond.selects "MarriedStreets$Law" ⟨"MarriedStreets$Law", "clear", "()V"⟩ ⟨"MarriedStreets$Law", "clear", "()V"⟩) ∈ wsG := inGw (inT4 (i := 133) rfl) rfl
theorem q_963 : (Cond.code ⟨"MarriedStreets$Law", "clear", "()V"⟩ prog_4_method_2_code 1 none) ∈ wsG := inGw (inT4 (i := 134) rfl) rfl
theorem q_964 : (Cond.methodLink "MarriedStreets" 124 ⟨"MarriedStreets$Mail", "clear", "()V"⟩) ∈ wsG := inGw (inT4 (i := 135) rfl) rfl
theorem q_965 : (Cond.instanceMethod ⟨"MarriedStreets$Mail", "clear", "()V"⟩) ∈ wsG := inGw (inT4 (i := 136) rfl) rfl
theorem q_966 : (Cond.selects "MarriedStreets$Mail" ⟨"MarriedStreets$Mail", "clear", "()V"⟩ ⟨"MarriedStreets$Mail", "clear", "()V"⟩) ∈ wsG := inGw (inT4 (i := 137) rfl) rfl
theorem q_967 : (Cond.code ⟨"MarriedStreets$Mail", "clear", "()V"⟩ prog_7_method_2_code 1 none) ∈ wsG := inGw (inT4 (i := 138) rfl) rfl
theorem q_968 : (Cond.methodLink "MarriedStreets" 125 ⟨"MarriedStreets$Ledger", "clear", "()V"⟩) ∈ wsG := inGw (inT4 (i := 139) rfl) rfl
theorem q_969 : (Cond.instanceMethod ⟨"MarriedStreets$Ledger", "clear", "()V"⟩) ∈ wsG := inGw (inT4 (i := 140) rfl) rfl
theorem q_970 : (Cond.selects "MarriedStreets$Ledger" ⟨"MarriedStreets$Ledger", "clear", "()V"⟩ ⟨"MarriedStreets$Ledger", "clear", "()V"⟩) ∈ wsG := inGw (inT4 (i := 141) rfl) rfl
theorem q_971 : (Cond.code ⟨"MarriedStreets$Ledger", "clear", "()V"⟩ prog_5_method_2_code 1 none) ∈ wsG := inGw (inT4 (i := 142) rfl) rfl
theorem q_972 : (Cond.methodLink "MarriedStreetsLaw" 120 ⟨"MarriedStreetsLaw", "law", "(LMarriedStreets;I[J)I"⟩) ∈ wsG := inGw (inT4 (i := 143) rfl) rfl
theorem q_973 : (Cond.static ⟨"MarriedStreetsLaw", "law", "(LMarriedStreets;I[J)I"⟩) ∈ wsG := inGw (inT4 (i := 144) rfl) rfl
theorem q_974 : (Cond.codeWith ⟨"MarriedStreetsLaw", "law", "(LMarriedStreets;I[J)I"⟩ method_4_code 4 (Option.some FieldType.int) [(0, 9, 12, 13)]) ∈ wsG := inGw (inT4 (i := 145) rfl) rfl
theorem q_975 : (Cond.methodLink "MarriedStreetsLaw" 15 ⟨"MarriedStreets", "law", "(I)I"⟩) ∈ wsG := inGw (inT4 (i := 146) rfl) rfl
theorem q_976 : (Cond.instanceMethod ⟨"MarriedStreets", "law", "(I)I"⟩) ∈ wsG := inGw (inT4 (i := 147) rfl) rfl
theorem q_977 : (Cond.selects "MarriedStreets" ⟨"MarriedStreets", "law", "(I)I"⟩ ⟨"MarriedStreets", "law", "(I)I"⟩) ∈ wsG := inGw (inT4 (i := 148) rfl) rfl
theorem q_978 : (Cond.code ⟨"MarriedStreets", "law", "(I)I"⟩ prog_1_method_4_code 3 (Option.some FieldType.int)) ∈ wsG := inGw (inT4 (i := 149) rfl) rfl
theorem q_979 : (Cond.methodLink "MarriedStreets" 132 ⟨"MarriedStreets$Law", "readAll", "(LMarriedStreets$Text;)Z"⟩) ∈ wsG := inGw (inT4 (i := 150) rfl) rfl
theorem q_980 : (Cond.instanceMethod ⟨"MarriedStreets$Law", "readAll", "(LMarriedStreets$Text;)Z"⟩) ∈ wsG := inGw (inT4 (i := 151) rfl) rfl
theorem q_981 : (Cond.selects "MarriedStreets$Law" ⟨"MarriedStreets$Law", "readAll", "(LMarriedStreets$Text;)Z"⟩ ⟨"MarriedStreets$Law", "readAll", "(LMarriedStreets$Text;)Z"⟩) ∈ wsG := inGw (inT4 (i := 152) rfl) rfl
theorem q_982 : (Cond.code ⟨"MarriedStreets$Law", "readAll", "(LMarriedStreets$Text;)Z"⟩ prog_4_method_3_code 2 (Option.some FieldType.boolean)) ∈ wsG := inGw (inT4 (i := 153) rfl) rfl
theorem q_983 : (Cond.methodLink "MarriedStreets$Law" 22 ⟨"MarriedStreets$Law", "readSum", "(LMarriedStreets$Text;I)Z"⟩) ∈ wsG := inGw (inT4 (i := 154) rfl) rfl
theorem q_985 : (Cond.instanceMethod ⟨"MarriedStreets$Law", "readSum", "(LMarriedStreets$Text;I)Z"⟩) ∈ wsG := inGw (inT4 (i := 156) rfl) rfl
theorem q_986 : (Cond.code ⟨"MarriedStreets$Law", "readSum", "(LMarriedStreets$Text;I)Z"⟩ prog_4_method_4_code 5 (Option.some FieldType.boolean)) ∈ wsG := inGw (inT4 (i := 157) rfl) rfl
theorem q_987 : (Cond.methodLink "MarriedStreets$Law" 36 ⟨"MarriedStreets$Law", "readProduct", "(LMarriedStreets$Text;I)Z"⟩) ∈ wsG := inGw (inT4 (i := 158) rfl) rfl
theorem q_989 : (Cond.instanceMethod ⟨"MarriedStreets$Law", "readProduct", "(LMarriedStreets$Text;I)Z"⟩) ∈ wsG := inGw (inT4 (i := 160) rfl) rfl
theorem q_990 : (Cond.code ⟨"MarriedStreets$Law", "readProduct", "(LMarriedStreets$Text;I)Z"⟩ prog_4_method_5_code 5 (Option.some FieldType.boolean)) ∈ wsG := inGw (inT4 (i := 161) rfl) rfl
theorem q_991 : (Cond.methodLink "MarriedStreets$Law" 49 ⟨"MarriedStreets$Law", "readUnit", "(LMarriedStreets$Text;I)Z"⟩) ∈ wsG := inGw (inT4 (i := 162) rfl) rfl
theorem q_993 : (Cond.instanceMethod ⟨"MarriedStreets$Law", "readUnit", "(LMarriedStreets$Text;I)Z"⟩) ∈ wsG := inGw (inT4 (i := 164) rfl) rfl
theorem q_994 : (Cond.code ⟨"MarriedStreets$Law", "readUnit", "(LMarriedStreets$Text;I)Z"⟩ prog_4_method_6_code 4 (Option.some FieldType.boolean)) ∈ wsG := inGw (inT4 (i := 165) rfl) rfl
theorem q_995 : (Cond.methodLink "MarriedStreets$Law" 52 ⟨"MarriedStreets$Text", "seesDigit", "()Z"⟩) ∈ wsG := inGw (inT4 (i := 166) rfl) rfl
theorem q_996 : (Cond.instanceMethod ⟨"MarriedStreets$Text", "seesDigit", "()Z"⟩) ∈ wsG := inGw (inT4 (i := 167) rfl) rfl
theorem q_997 : (Cond.selects "MarriedStreets$Text" ⟨"MarriedStreets$Text", "seesDigit", "()Z"⟩ ⟨"MarriedStreets$Text", "seesDigit", "()Z"⟩) ∈ wsG := inGw (inT4 (i := 168) rfl) rfl
theorem q_998 : (Cond.code ⟨"MarriedStreets$Text", "seesDigit", "()Z"⟩ prog_12_method_7_code 1 (Option.some FieldType.boolean)) ∈ wsG := inGw (inT4 (i := 169) rfl) rfl
theorem q_999 : (Cond.methodLink "MarriedStreets$Law" 55 ⟨"MarriedStreets$Text", "readNumber", "(II)I"⟩) ∈ wsG := inGw (inT4 (i := 170) rfl) rfl
theorem q_1000 : (Cond.methodLink "MarriedStreets$Law" 46 ⟨"MarriedStreets$Law", "append", "(I)Z"⟩) ∈ wsG := inGw (inT4 (i := 171) rfl) rfl
theorem q_1002 : (Cond.instanceMethod ⟨"MarriedStreets$Law", "append", "(I)Z"⟩) ∈ wsG := inGw (inT4 (i := 173) rfl) rfl
theorem q_1003 : (Cond.code ⟨"MarriedStreets$Law", "append", "(I)Z"⟩ prog_4_method_10_code 2 (Option.some FieldType.boolean)) ∈ wsG := inGw (inT4 (i := 174) rfl) rfl
theorem q_1004 : (Cond.methodLink "MarriedStreets$Law" 39 ⟨"MarriedStreets$Text", "sees", "(C)Z"⟩) ∈ wsG := inGw (inT4 (i := 175) rfl) rfl
theorem q_1005 : (Cond.instanceMethod ⟨"MarriedStreets$Text", "sees", "(C)Z"⟩) ∈ wsG := inGw (inT4 (i := 176) rfl) rfl
theorem q_1006 : (Cond.selects "MarriedStreets$Text" ⟨"MarriedStreets$Text", "sees", "(C)Z"⟩ ⟨"MarriedStreets$Text", "sees", "(C)Z"⟩) ∈ wsG := inGw (inT4 (i := 177) rfl) rfl
theorem q_1007 : (Cond.code ⟨"MarriedStreets$Text", "sees", "(C)Z"⟩ prog_12_method_6_code 2 (Option.some FieldType.boolean)) ∈ wsG := inGw (inT4 (i := 178) rfl) rfl
theorem q_1008 : (Cond.methodLink "MarriedStreets$Law" 59 ⟨"MarriedStreets$Law", "mayOpen", "(LMarriedStreets$Text;I)Z"⟩) ∈ wsG := inGw (inT4 (i := 179) rfl) rfl
theorem q_1009 : (Cond.static ⟨"MarriedStreets$Law", "mayOpen", "(LMarriedStreets$Text;I)Z"⟩) ∈ wsG := inGw (inT4 (i := 180) rfl) rfl
theorem q_1010 : (Cond.code ⟨"MarriedStreets$Law", "mayOpen", "(LMarriedStreets$Text;I)Z"⟩ prog_4_method_8_code 2 (Option.some FieldType.boolean)) ∈ wsG := inGw (inT4 (i := 181) rfl) rfl
theorem q_1011 : (Cond.methodLink "MarriedStreets$Law" 32 ⟨"MarriedStreets$Text", "mark", "(I)Z"⟩) ∈ wsG := inGw (inT4 (i := 182) rfl) rfl
theorem q_1012 : (Cond.methodLink "MarriedStreets$Law" 43 ⟨"MarriedStreets$Text", "take", "(C)Z"⟩) ∈ wsG := inGw (inT4 (i := 183) rfl) rfl
theorem q_1013 : (Cond.methodLink "MarriedStreets$Law" 62 ⟨"MarriedStreets$Text", "readWord", "()V"⟩) ∈ wsG := inGw (inT4 (i := 184) rfl) rfl
theorem q_1014 : (Cond.methodLink "MarriedStreets$Law" 65 ⟨"MarriedStreets$Law", "wordOf", "(LMarriedStreets$Text;)I"⟩) ∈ wsG := inGw (inT4 (i := 185) rfl) rfl
theorem q_1015 : (Cond.static ⟨"MarriedStreets$Law", "wordOf", "(LMarriedStreets$Text;)I"⟩) ∈ wsG := inGw (inT4 (i := 186) rfl) rfl
theorem q_1016 : (Cond.code ⟨"MarriedStreets$Law", "wordOf", "(LMarriedStreets$Text;)I"⟩ prog_4_method_9_code 1 (Option.some FieldType.int)) ∈ wsG := inGw (inT4 (i := 187) rfl) rfl
theorem q_1018 : (Cond.methodLink "MarriedStreets$Law" 75 ⟨"MarriedStreets$Text", "wordIs", "(Ljava/lang/String;)Z"⟩) ∈ wsG := inGw (inT4 (i := 189) rfl) rfl
theorem q_1029 : (Cond.methodLink "MarriedStreets$Law" 69 ⟨"MarriedStreets$Law", "readPair", "(LMarriedStreets$Text;II)Z"⟩) ∈ wsG := inGw (inT4 (i := 200) rfl) rfl
theorem q_1031 : (Cond.instanceMethod ⟨"MarriedStreets$Law", "readPair", "(LMarriedStreets$Text;II)Z"⟩) ∈ wsG := inGw (inT4 (i := 202) rfl) rfl
theorem q_1032 : (Cond.code ⟨"MarriedStreets$Law", "readPair", "(LMarriedStreets$Text;II)Z"⟩ prog_4_method_7_code 4 (Option.some FieldType.boolean)) ∈ wsG := inGw (inT4 (i := 203) rfl) rfl
theorem q_1033 : (Cond.methodLink "MarriedStreets$Law" 26 ⟨"MarriedStreets$Text", "atEnd", "()Z"⟩) ∈ wsG := inGw (inT4 (i := 204) rfl) rfl
theorem q_1034 : (Cond.methodLink "MarriedStreetsLaw" 123 ⟨"MarriedStreetsLaw", "work", "(LMarriedStreets;I[J)I"⟩) ∈ wsG := inGw (inT4 (i := 205) rfl) rfl
theorem q_1035 : (Cond.static ⟨"MarriedStreetsLaw", "work", "(LMarriedStreets;I[J)I"⟩) ∈ wsG := inGw (inT4 (i := 206) rfl) rfl
theorem q_1036 : (Cond.codeWith ⟨"MarriedStreetsLaw", "work", "(LMarriedStreets;I[J)I"⟩ method_5_code 4 (Option.some FieldType.int) [(0, 9, 12, 13)]) ∈ wsG := inGw (inT4 (i := 207) rfl) rfl
theorem q_1037 : (Cond.methodLink "MarriedStreetsLaw" 18 ⟨"MarriedStreets", "work", "(I)I"⟩) ∈ wsG := inGw (inT4 (i := 208) rfl) rfl
theorem q_1038 : (Cond.instanceMethod ⟨"MarriedStreets", "work", "(I)I"⟩) ∈ wsG := inGw (inT4 (i := 209) rfl) rfl
theorem q_1039 : (Cond.selects "MarriedStreets" ⟨"MarriedStreets", "work", "(I)I"⟩ ⟨"MarriedStreets", "work", "(I)I"⟩) ∈ wsG := inGw (inT4 (i := 210) rfl) rfl
theorem q_1040 : (Cond.code ⟨"MarriedStreets", "work", "(I)I"⟩ prog_1_method_5_code 2 (Option.some FieldType.int)) ∈ wsG := inGw (inT4 (i := 211) rfl) rfl
theorem q_1041 : (Cond.methodLink "MarriedStreets" 133 ⟨"MarriedStreets$Ledger", "isFull", "()Z"⟩) ∈ wsG := inGw (inT4 (i := 212) rfl) rfl
theorem q_1042 : (Cond.instanceMethod ⟨"MarriedStreets$Ledger", "isFull", "()Z"⟩) ∈ wsG := inGw (inT4 (i := 213) rfl) rfl
theorem q_1043 : (Cond.selects "MarriedStreets$Ledger" ⟨"MarriedStreets$Ledger", "isFull", "()Z"⟩ ⟨"MarriedStreets$Ledger", "isFull", "()Z"⟩) ∈ wsG := inGw (inT4 (i := 214) rfl) rfl
theorem q_1044 : (Cond.code ⟨"MarriedStreets$Ledger", "isFull", "()Z"⟩ prog_5_method_3_code 1 (Option.some FieldType.boolean)) ∈ wsG := inGw (inT4 (i := 215) rfl) rfl
theorem q_1045 : (Cond.methodLink "MarriedStreets" 137 ⟨"MarriedStreets$Plan", "readAll", "(LMarriedStreets$Text;I)Z"⟩) ∈ wsG := inGw (inT4 (i := 216) rfl) rfl
theorem q_1046 : (Cond.instanceMethod ⟨"MarriedStreets$Plan", "readAll", "(LMarriedStreets$Text;I)Z"⟩) ∈ wsG := inGw (inT4 (i := 217) rfl) rfl
theorem q_1047 : (Cond.selects "MarriedStreets$Plan" ⟨"MarriedStreets$Plan", "readAll", "(LMarriedStreets$Text;I)Z"⟩ ⟨"MarriedStreets$Plan", "readAll", "(LMarriedStreets$Text;I)Z"⟩) ∈ wsG := inGw (inT4 (i := 218) rfl) rfl
theorem q_1048 : (Cond.code ⟨"MarriedStreets$Plan", "readAll", "(LMarriedStreets$Text;I)Z"⟩ prog_9_method_2_code 4 (Option.some FieldType.boolean)) ∈ wsG := inGw (inT4 (i := 219) rfl) rfl
theorem q_1049 : (Cond.methodLink "MarriedStreets$Plan" 34 ⟨"MarriedStreets$Text", "atEnd", "()Z"⟩) ∈ wsG := inGw (inT4 (i := 220) rfl) rfl
theorem q_1050 : (Cond.methodLink "MarriedStreets$Plan" 40 ⟨"MarriedStreets$Plan", "readStep", "(LMarriedStreets$Text;II)Z"⟩) ∈ wsG := inGw (inT4 (i := 221) rfl) rfl
theorem q_1052 : (Cond.instanceMethod ⟨"MarriedStreets$Plan", "readStep", "(LMarriedStreets$Text;II)Z"⟩) ∈ wsG := inGw (inT4 (i := 223) rfl) rfl
theorem q_1053 : (Cond.code ⟨"MarriedStreets$Plan", "readStep", "(LMarriedStreets$Text;II)Z"⟩ prog_9_method_3_code 7 (Option.some FieldType.boolean)) ∈ wsG := inGw (inT4 (i := 224) rfl) rfl
theorem q_1054 : (Cond.methodLink "MarriedStreets$Plan" 44 ⟨"MarriedStreets$Text", "readWord", "()V"⟩) ∈ wsG := inGw (inT4 (i := 225) rfl) rfl
theorem q_1055 : (Cond.methodLink "MarriedStreets$Plan" 47 ⟨"MarriedStreets$Plan", "kindOf", "(LMarriedStreets$Text;)I"⟩) ∈ wsG := inGw (inT4 (i := 226) rfl) rfl
theorem q_1056 : (Cond.static ⟨"MarriedStreets$Plan", "kindOf", "(LMarriedStreets$Text;)I"⟩) ∈ wsG := inGw (inT4 (i := 227) rfl) rfl
theorem q_1057 : (Cond.code ⟨"MarriedStreets$Plan", "kindOf", "(LMarriedStreets$Text;)I"⟩ prog_9_method_6_code 1 (Option.some FieldType.int)) ∈ wsG := inGw (inT4 (i := 228) rfl) rfl
theorem q_1059 : (Cond.methodLink "MarriedStreets$Plan" 85 ⟨"MarriedStreets$Text", "wordIs", "(Ljava/lang/String;)Z"⟩) ∈ wsG := inGw (inT4 (i := 230) rfl) rfl
theorem q_1066 : (Cond.methodLink "MarriedStreets$Plan" 51 ⟨"MarriedStreets$Text", "mark", "(I)Z"⟩) ∈ wsG := inGw (inT4 (i := 237) rfl) rfl
theorem q_1067 : (Cond.methodLink "MarriedStreets$Plan" 55 ⟨"MarriedStreets$Plan", "readAgain", "(LMarriedStreets$Text;II)Z"⟩) ∈ wsG := inGw (inT4 (i := 238) rfl) rfl
theorem q_1069 : (Cond.instanceMethod ⟨"MarriedStreets$Plan", "readAgain", "(LMarriedStreets$Text;II)Z"⟩) ∈ wsG := inGw (inT5 (i := 0) rfl) rfl
theorem q_1070 : (Cond.code ⟨"MarriedStreets$Plan", "readAgain", "(LMarriedStreets$Text;II)Z"⟩ prog_9_method_5_code 7 (Option.some FieldType.boolean)) ∈ wsG := inGw (inT5 (i := 1) rfl) rfl
theorem q_1071 : (Cond.methodLink "MarriedStreets$Plan" 62 ⟨"MarriedStreets$Text", "readNumber", "(II)I"⟩) ∈ wsG := inGw (inT5 (i := 2) rfl) rfl
theorem q_1072 : (Cond.methodLink "MarriedStreets$Plan" 58 ⟨"MarriedStreets$Text", "take", "(C)Z"⟩) ∈ wsG := inGw (inT5 (i := 3) rfl) rfl
theorem q_1073 : (Cond.methodLink "MarriedStreets$Plan" 70 ⟨"MarriedStreets$Plan", "append", "(III)V"⟩) ∈ wsG := inGw (inT5 (i := 4) rfl) rfl
theorem q_1075 : (Cond.instanceMethod ⟨"MarriedStreets$Plan", "append", "(III)V"⟩) ∈ wsG := inGw (inT5 (i := 6) rfl) rfl
theorem q_1076 : (Cond.code ⟨"MarriedStreets$Plan", "append", "(III)V"⟩ prog_9_method_7_code 4 none) ∈ wsG := inGw (inT5 (i := 7) rfl) rfl
theorem q_1077 : (Cond.methodLink "MarriedStreets$Plan" 77 ⟨"MarriedStreets$Rows", "put", "([III)V"⟩) ∈ wsG := inGw (inT5 (i := 8) rfl) rfl
theorem q_1078 : (Cond.methodLink "MarriedStreets$Plan" 74 ⟨"MarriedStreets$Text", "sees", "(C)Z"⟩) ∈ wsG := inGw (inT5 (i := 9) rfl) rfl
theorem q_1079 : (Cond.methodLink "MarriedStreets$Plan" 66 ⟨"MarriedStreets$Plan", "readSecond", "(LMarriedStreets$Text;II)I"⟩) ∈ wsG := inGw (inT5 (i := 10) rfl) rfl
theorem q_1080 : (Cond.static ⟨"MarriedStreets$Plan", "readSecond", "(LMarriedStreets$Text;II)I"⟩) ∈ wsG := inGw (inT5 (i := 11) rfl) rfl
theorem q_1081 : (Cond.code ⟨"MarriedStreets$Plan", "readSecond", "(LMarriedStreets$Text;II)I"⟩ prog_9_method_4_code 3 (Option.some FieldType.int)) ∈ wsG := inGw (inT5 (i := 12) rfl) rfl
theorem q_1082 : (Cond.methodLink "MarriedStreets" 140 ⟨"MarriedStreets$Ledger", "keepWork", "(LMarriedStreets$Life;)V"⟩) ∈ wsG := inGw (inT5 (i := 13) rfl) rfl
theorem q_1083 : (Cond.instanceMethod ⟨"MarriedStreets$Ledger", "keepWork", "(LMarriedStreets$Life;)V"⟩) ∈ wsG := inGw (inT5 (i := 14) rfl) rfl
theorem q_1084 : (Cond.selects "MarriedStreets$Ledger" ⟨"MarriedStreets$Ledger", "keepWork", "(LMarriedStreets$Life;)V"⟩ ⟨"MarriedStreets$Ledger", "keepWork", "(LMarriedStreets$Life;)V"⟩) ∈ wsG := inGw (inT5 (i := 15) rfl) rfl
theorem q_1085 : (Cond.code ⟨"MarriedStreets$Ledger", "keepWork", "(LMarriedStreets$Life;)V"⟩ prog_5_method_4_code 2 none) ∈ wsG := inGw (inT5 (i := 16) rfl) rfl
theorem q_1086 : (Cond.methodLinkNest "MarriedStreets" 147 ⟨"MarriedStreets$Plan", "perform", "(IIILMarriedStreets$Life;LMarriedStreets$City;LMarriedStreets$Law;)V"⟩ "MarriedStreets") ∈ wsN := inNw (inT5 (i := 17) rfl) rfl
theorem q_1088 : (Cond.instanceMethod ⟨"MarriedStreets$Plan", "perform", "(IIILMarriedStreets$Life;LMarriedStreets$City;LMarriedStreets$Law;)V"⟩) ∈ wsG := inGw (inT5 (i := 19) rfl) rfl
theorem q_1089 : (Cond.code ⟨"MarriedStreets$Plan", "perform", "(IIILMarriedStreets$Life;LMarriedStreets$City;LMarriedStreets$Law;)V"⟩ prog_9_method_8_code 11 none) ∈ wsG := inGw (inT5 (i := 20) rfl) rfl
theorem q_1090 : (Cond.methodLink "MarriedStreets$Plan" 101 ⟨"MarriedStreets$Rows", "at", "([II)I"⟩) ∈ wsG := inGw (inT5 (i := 21) rfl) rfl
theorem q_1091 : (Cond.methodLink "MarriedStreets$Plan" 105 ⟨"java/lang/Math", "max", "(II)I"⟩) ∈ wsG := inGw (inT5 (i := 22) rfl) rfl
theorem q_1092 : (Cond.methodLink "MarriedStreets$Plan" 110 ⟨"MarriedStreets$Plan", "perform", "(IIILMarriedStreets$Life;LMarriedStreets$City;LMarriedStreets$Law;)V"⟩) ∈ wsG := inGw (inT5 (i := 23) rfl) rfl
theorem q_1093 : (Cond.methodLink "MarriedStreets$Plan" 114 ⟨"MarriedStreets$Plan", "performStep", "(ILMarriedStreets$Life;LMarriedStreets$City;LMarriedStreets$Law;)Z"⟩) ∈ wsG := inGw (inT5 (i := 24) rfl) rfl
theorem q_1095 : (Cond.instanceMethod ⟨"MarriedStreets$Plan", "performStep", "(ILMarriedStreets$Life;LMarriedStreets$City;LMarriedStreets$Law;)Z"⟩) ∈ wsG := inGw (inT5 (i := 26) rfl) rfl
theorem q_1096 : (Cond.code ⟨"MarriedStreets$Plan", "performStep", "(ILMarriedStreets$Life;LMarriedStreets$City;LMarriedStreets$Law;)Z"⟩ prog_9_method_9_code 7 (Option.some FieldType.boolean)) ∈ wsG := inGw (inT5 (i := 27) rfl) rfl
theorem q_1097 : (Cond.methodLink "MarriedStreets$Plan" 118 ⟨"MarriedStreets$Law", "hindrance", "(LMarriedStreets$City;LMarriedStreets$Life;II)I"⟩) ∈ wsG := inGw (inT5 (i := 28) rfl) rfl
theorem q_1098 : (Cond.methodLink "MarriedStreets$Plan" 124 ⟨"MarriedStreets$Life", "wed", "(II)Z"⟩) ∈ wsG := inGw (inT5 (i := 29) rfl) rfl
theorem q_1099 : (Cond.instanceMethod ⟨"MarriedStreets$Life", "wed", "(II)Z"⟩) ∈ wsG := inGw (inT5 (i := 30) rfl) rfl
theorem q_1100 : (Cond.selects "MarriedStreets$Life" ⟨"MarriedStreets$Life", "wed", "(II)Z"⟩ ⟨"MarriedStreets$Life", "wed", "(II)Z"⟩) ∈ wsG := inGw (inT5 (i := 31) rfl) rfl
theorem q_1101 : (Cond.code ⟨"MarriedStreets$Life", "wed", "(II)Z"⟩ prog_6_method_19_code 3 (Option.some FieldType.boolean)) ∈ wsG := inGw (inT5 (i := 32) rfl) rfl
theorem q_1102 : (Cond.methodLink "MarriedStreets$Life" 60 ⟨"MarriedStreets$Life", "mateOf", "(I)I"⟩) ∈ wsG := inGw (inT5 (i := 33) rfl) rfl
theorem q_1103 : (Cond.methodLink "MarriedStreets$Life" 63 ⟨"MarriedStreets$Life", "bind", "(III)V"⟩) ∈ wsG := inGw (inT5 (i := 34) rfl) rfl
theorem q_1105 : (Cond.instanceMethod ⟨"MarriedStreets$Life", "bind", "(III)V"⟩) ∈ wsG := inGw (inT5 (i := 36) rfl) rfl
theorem q_1106 : (Cond.code ⟨"MarriedStreets$Life", "bind", "(III)V"⟩ prog_6_method_26_code 4 none) ∈ wsG := inGw (inT5 (i := 37) rfl) rfl
theorem q_1107 : (Cond.methodLink "MarriedStreets$Plan" 130 ⟨"MarriedStreets$Life", "partFrom", "(I)Z"⟩) ∈ wsG := inGw (inT5 (i := 38) rfl) rfl
theorem q_1108 : (Cond.instanceMethod ⟨"MarriedStreets$Life", "partFrom", "(I)Z"⟩) ∈ wsG := inGw (inT5 (i := 39) rfl) rfl
theorem q_1109 : (Cond.selects "MarriedStreets$Life" ⟨"MarriedStreets$Life", "partFrom", "(I)Z"⟩ ⟨"MarriedStreets$Life", "partFrom", "(I)Z"⟩) ∈ wsG := inGw (inT5 (i := 40) rfl) rfl
theorem q_1110 : (Cond.code ⟨"MarriedStreets$Life", "partFrom", "(I)Z"⟩ prog_6_method_20_code 6 (Option.some FieldType.boolean)) ∈ wsG := inGw (inT5 (i := 41) rfl) rfl
theorem q_1111 : (Cond.methodLink "MarriedStreets$Life" 43 ⟨"MarriedStreets$Life", "roleOf", "(I)I"⟩) ∈ wsG := inGw (inT5 (i := 42) rfl) rfl
theorem q_1112 : (Cond.instanceMethod ⟨"MarriedStreets$Life", "roleOf", "(I)I"⟩) ∈ wsG := inGw (inT5 (i := 43) rfl) rfl
theorem q_1113 : (Cond.selects "MarriedStreets$Life" ⟨"MarriedStreets$Life", "roleOf", "(I)I"⟩ ⟨"MarriedStreets$Life", "roleOf", "(I)I"⟩) ∈ wsG := inGw (inT5 (i := 44) rfl) rfl
theorem q_1114 : (Cond.code ⟨"MarriedStreets$Life", "roleOf", "(I)I"⟩ prog_6_method_9_code 2 (Option.some FieldType.int)) ∈ wsG := inGw (inT5 (i := 45) rfl) rfl
theorem q_1115 : (Cond.methodLink "MarriedStreets$Life" 46 ⟨"MarriedStreets$Life", "treesOf", "(I)I"⟩) ∈ wsG := inGw (inT5 (i := 46) rfl) rfl
theorem q_1116 : (Cond.methodLink "MarriedStreets$Life" 67 ⟨"MarriedStreets$Life", "partedSoFar", "()I"⟩) ∈ wsG := inGw (inT5 (i := 47) rfl) rfl
theorem q_1117 : (Cond.instanceMethod ⟨"MarriedStreets$Life", "partedSoFar", "()I"⟩) ∈ wsG := inGw (inT5 (i := 48) rfl) rfl
theorem q_1118 : (Cond.selects "MarriedStreets$Life" ⟨"MarriedStreets$Life", "partedSoFar", "()I"⟩ ⟨"MarriedStreets$Life", "partedSoFar", "()I"⟩) ∈ wsG := inGw (inT5 (i := 49) rfl) rfl
theorem q_1119 : (Cond.code ⟨"MarriedStreets$Life", "partedSoFar", "()I"⟩ prog_6_method_14_code 1 (Option.some FieldType.int)) ∈ wsG := inGw (inT5 (i := 50) rfl) rfl
theorem q_1120 : (Cond.methodLink "MarriedStreets$Plan" 133 ⟨"MarriedStreets$Life", "plantIn", "(II)Z"⟩) ∈ wsG := inGw (inT5 (i := 51) rfl) rfl
theorem q_1121 : (Cond.instanceMethod ⟨"MarriedStreets$Life", "plantIn", "(II)Z"⟩) ∈ wsG := inGw (inT5 (i := 52) rfl) rfl
theorem q_1122 : (Cond.selects "MarriedStreets$Life" ⟨"MarriedStreets$Life", "plantIn", "(II)Z"⟩ ⟨"MarriedStreets$Life", "plantIn", "(II)Z"⟩) ∈ wsG := inGw (inT5 (i := 53) rfl) rfl
theorem q_1123 : (Cond.code ⟨"MarriedStreets$Life", "plantIn", "(II)Z"⟩ prog_6_method_21_code 3 (Option.some FieldType.boolean)) ∈ wsG := inGw (inT5 (i := 54) rfl) rfl
theorem q_1124 : (Cond.methodLink "MarriedStreets$Life" 71 ⟨"java/lang/Math", "min", "(II)I"⟩) ∈ wsG := inGw (inT5 (i := 55) rfl) rfl
theorem q_1125 : (Cond.methodLink "MarriedStreets$Plan" 136 ⟨"MarriedStreets$Life", "quarrelIn", "(I)Z"⟩) ∈ wsG := inGw (inT5 (i := 56) rfl) rfl
theorem q_1126 : (Cond.instanceMethod ⟨"MarriedStreets$Life", "quarrelIn", "(I)Z"⟩) ∈ wsG := inGw (inT5 (i := 57) rfl) rfl
theorem q_1127 : (Cond.selects "MarriedStreets$Life" ⟨"MarriedStreets$Life", "quarrelIn", "(I)Z"⟩ ⟨"MarriedStreets$Life", "quarrelIn", "(I)Z"⟩) ∈ wsG := inGw (inT5 (i := 58) rfl) rfl
theorem q_1128 : (Cond.code ⟨"MarriedStreets$Life", "quarrelIn", "(I)Z"⟩ prog_6_method_22_code 3 (Option.some FieldType.boolean)) ∈ wsG := inGw (inT5 (i := 59) rfl) rfl
theorem q_1129 : (Cond.methodLink "MarriedStreets$Life" 49 ⟨"MarriedStreets$Life", "holesOf", "(I)I"⟩) ∈ wsG := inGw (inT5 (i := 60) rfl) rfl
theorem q_1130 : (Cond.methodLink "MarriedStreets$Life" 74 ⟨"MarriedStreets$Life", "setHoles", "(II)V"⟩) ∈ wsG := inGw (inT5 (i := 61) rfl) rfl
theorem q_1132 : (Cond.instanceMethod ⟨"MarriedStreets$Life", "setHoles", "(II)V"⟩) ∈ wsG := inGw (inT5 (i := 63) rfl) rfl
theorem q_1133 : (Cond.code ⟨"MarriedStreets$Life", "setHoles", "(II)V"⟩ prog_6_method_27_code 3 none) ∈ wsG := inGw (inT5 (i := 64) rfl) rfl
theorem q_1134 : (Cond.methodLink "MarriedStreets$Plan" 139 ⟨"MarriedStreets$Life", "repaveIn", "(I)Z"⟩) ∈ wsG := inGw (inT5 (i := 65) rfl) rfl
theorem q_1135 : (Cond.instanceMethod ⟨"MarriedStreets$Life", "repaveIn", "(I)Z"⟩) ∈ wsG := inGw (inT5 (i := 66) rfl) rfl
theorem q_1136 : (Cond.selects "MarriedStreets$Life" ⟨"MarriedStreets$Life", "repaveIn", "(I)Z"⟩ ⟨"MarriedStreets$Life", "repaveIn", "(I)Z"⟩) ∈ wsG := inGw (inT5 (i := 67) rfl) rfl
theorem q_1137 : (Cond.code ⟨"MarriedStreets$Life", "repaveIn", "(I)Z"⟩ prog_6_method_23_code 4 (Option.some FieldType.boolean)) ∈ wsG := inGw (inT5 (i := 68) rfl) rfl
theorem q_1138 : (Cond.methodLink "MarriedStreets$Plan" 142 ⟨"MarriedStreets$Life", "turnYear", "()Z"⟩) ∈ wsG := inGw (inT5 (i := 69) rfl) rfl
theorem q_1139 : (Cond.instanceMethod ⟨"MarriedStreets$Life", "turnYear", "()Z"⟩) ∈ wsG := inGw (inT5 (i := 70) rfl) rfl
theorem q_1140 : (Cond.selects "MarriedStreets$Life" ⟨"MarriedStreets$Life", "turnYear", "()Z"⟩ ⟨"MarriedStreets$Life", "turnYear", "()Z"⟩) ∈ wsG := inGw (inT5 (i := 71) rfl) rfl
theorem q_1141 : (Cond.code ⟨"MarriedStreets$Life", "turnYear", "()Z"⟩ prog_6_method_24_code 2 (Option.some FieldType.boolean)) ∈ wsG := inGw (inT5 (i := 72) rfl) rfl
theorem q_1142 : (Cond.methodLink "MarriedStreets$Life" 78 ⟨"MarriedStreets$Life", "yearNow", "()I"⟩) ∈ wsG := inGw (inT5 (i := 73) rfl) rfl
theorem q_1143 : (Cond.methodLink "MarriedStreets$Life" 81 ⟨"MarriedStreets$Life", "age", "(II)V"⟩) ∈ wsG := inGw (inT5 (i := 74) rfl) rfl
theorem q_1145 : (Cond.instanceMethod ⟨"MarriedStreets$Life", "age", "(II)V"⟩) ∈ wsG := inGw (inT5 (i := 76) rfl) rfl
theorem q_1146 : (Cond.code ⟨"MarriedStreets$Life", "age", "(II)V"⟩ prog_6_method_25_code 4 none) ∈ wsG := inGw (inT5 (i := 77) rfl) rfl
theorem q_1147 : (Cond.methodLink "MarriedStreets$Life" 52 ⟨"MarriedStreets$Life", "yearsOf", "(I)I"⟩) ∈ wsG := inGw (inT5 (i := 78) rfl) rfl
theorem q_1148 : (Cond.instanceMethod ⟨"MarriedStreets$Life", "yearsOf", "(I)I"⟩) ∈ wsG := inGw (inT5 (i := 79) rfl) rfl
theorem q_1149 : (Cond.selects "MarriedStreets$Life" ⟨"MarriedStreets$Life", "yearsOf", "(I)I"⟩ ⟨"MarriedStreets$Life", "yearsOf", "(I)I"⟩) ∈ wsG := inGw (inT5 (i := 80) rfl) rfl
theorem q_1150 : (Cond.code ⟨"MarriedStreets$Life", "yearsOf", "(I)I"⟩ prog_6_method_10_code 2 (Option.some FieldType.int)) ∈ wsG := inGw (inT5 (i := 81) rfl) rfl
theorem q_1151 : (Cond.methodLink "MarriedStreets$Life" 84 ⟨"MarriedStreets$Life", "partFrom", "(I)Z"⟩) ∈ wsG := inGw (inT5 (i := 82) rfl) rfl
theorem q_1152 : (Cond.methodLink "MarriedStreetsLaw" 126 ⟨"MarriedStreetsLaw", "post", "(LMarriedStreets;I[J)I"⟩) ∈ wsG := inGw (inT5 (i := 83) rfl) rfl
theorem q_1153 : (Cond.static ⟨"MarriedStreetsLaw", "post", "(LMarriedStreets;I[J)I"⟩) ∈ wsG := inGw (inT5 (i := 84) rfl) rfl
theorem q_1154 : (Cond.codeWith ⟨"MarriedStreetsLaw", "post", "(LMarriedStreets;I[J)I"⟩ method_6_code 4 (Option.some FieldType.int) [(0, 9, 12, 13)]) ∈ wsG := inGw (inT5 (i := 85) rfl) rfl
theorem q_1155 : (Cond.methodLink "MarriedStreetsLaw" 21 ⟨"MarriedStreets", "post", "(I)I"⟩) ∈ wsG := inGw (inT5 (i := 86) rfl) rfl
theorem q_1156 : (Cond.instanceMethod ⟨"MarriedStreets", "post", "(I)I"⟩) ∈ wsG := inGw (inT5 (i := 87) rfl) rfl
theorem q_1157 : (Cond.selects "MarriedStreets" ⟨"MarriedStreets", "post", "(I)I"⟩ ⟨"MarriedStreets", "post", "(I)I"⟩) ∈ wsG := inGw (inT5 (i := 88) rfl) rfl
theorem q_1158 : (Cond.code ⟨"MarriedStreets", "post", "(I)I"⟩ prog_1_method_6_code 3 (Option.some FieldType.int)) ∈ wsG := inGw (inT5 (i := 89) rfl) rfl
theorem q_1159 : (Cond.methodLink "MarriedStreets" 157 ⟨"MarriedStreets$Mail", "readAll", "(LMarriedStreets$Text;)Z"⟩) ∈ wsG := inGw (inT5 (i := 90) rfl) rfl
theorem q_1160 : (Cond.instanceMethod ⟨"MarriedStreets$Mail", "readAll", "(LMarriedStreets$Text;)Z"⟩) ∈ wsG := inGw (inT5 (i := 91) rfl) rfl
theorem q_1161 : (Cond.selects "MarriedStreets$Mail" ⟨"MarriedStreets$Mail", "readAll", "(LMarriedStreets$Text;)Z"⟩ ⟨"MarriedStreets$Mail", "readAll", "(LMarriedStreets$Text;)Z"⟩) ∈ wsG := inGw (inT5 (i := 92) rfl) rfl
theorem q_1162 : (Cond.code ⟨"MarriedStreets$Mail", "readAll", "(LMarriedStreets$Text;)Z"⟩ prog_7_method_3_code 3 (Option.some FieldType.boolean)) ∈ wsG := inGw (inT5 (i := 93) rfl) rfl
theorem q_1163 : (Cond.methodLink "MarriedStreets$Mail" 22 ⟨"MarriedStreets$Text", "atEnd", "()Z"⟩) ∈ wsG := inGw (inT5 (i := 94) rfl) rfl
theorem q_1164 : (Cond.methodLink "MarriedStreets$Mail" 28 ⟨"MarriedStreets$Mail", "readLine", "(LMarriedStreets$Text;)Z"⟩) ∈ wsG := inGw (inT5 (i := 95) rfl) rfl
theorem q_1166 : (Cond.instanceMethod ⟨"MarriedStreets$Mail", "readLine", "(LMarriedStreets$Text;)Z"⟩) ∈ wsG := inGw (inT5 (i := 97) rfl) rfl
theorem q_1167 : (Cond.code ⟨"MarriedStreets$Mail", "readLine", "(LMarriedStreets$Text;)Z"⟩ prog_7_method_4_code 4 (Option.some FieldType.boolean)) ∈ wsG := inGw (inT5 (i := 98) rfl) rfl
theorem q_1168 : (Cond.methodLink "MarriedStreets$Mail" 32 ⟨"MarriedStreets$Text", "readNumber", "(II)I"⟩) ∈ wsG := inGw (inT5 (i := 99) rfl) rfl
theorem q_1169 : (Cond.methodLink "MarriedStreets$Mail" 36 ⟨"MarriedStreets$Mail", "has", "(I)Z"⟩) ∈ wsG := inGw (inT5 (i := 100) rfl) rfl
theorem q_1170 : (Cond.instanceMethod ⟨"MarriedStreets$Mail", "has", "(I)Z"⟩) ∈ wsG := inGw (inT5 (i := 101) rfl) rfl
theorem q_1171 : (Cond.selects "MarriedStreets$Mail" ⟨"MarriedStreets$Mail", "has", "(I)Z"⟩ ⟨"MarriedStreets$Mail", "has", "(I)Z"⟩) ∈ wsG := inGw (inT5 (i := 102) rfl) rfl
theorem q_1172 : (Cond.code ⟨"MarriedStreets$Mail", "has", "(I)Z"⟩ prog_7_method_5_code 3 (Option.some FieldType.boolean)) ∈ wsG := inGw (inT5 (i := 103) rfl) rfl
theorem q_1173 : (Cond.methodLink "MarriedStreets$Mail" 53 ⟨"MarriedStreets$Rows", "at", "([II)I"⟩) ∈ wsG := inGw (inT5 (i := 104) rfl) rfl
theorem q_1174 : (Cond.methodLink "MarriedStreets$Mail" 40 ⟨"MarriedStreets$Text", "mark", "(I)Z"⟩) ∈ wsG := inGw (inT5 (i := 105) rfl) rfl
theorem q_1175 : (Cond.methodLink "MarriedStreets$Mail" 43 ⟨"MarriedStreets$Text", "take", "(C)Z"⟩) ∈ wsG := inGw (inT5 (i := 106) rfl) rfl
theorem q_1176 : (Cond.methodLink "MarriedStreets$Mail" 47 ⟨"MarriedStreets$Rows", "put", "([III)V"⟩) ∈ wsG := inGw (inT5 (i := 107) rfl) rfl
theorem q_1177 : (Cond.methodLink "MarriedStreetsLaw" 137 ⟨"MarriedStreetsLaw", "told", "(LMarriedStreets;I[J)I"⟩) ∈ wsG := inGw (inT5 (i := 108) rfl) rfl
theorem q_1178 : (Cond.static ⟨"MarriedStreetsLaw", "told", "(LMarriedStreets;I[J)I"⟩) ∈ wsG := inGw (inT5 (i := 109) rfl) rfl
theorem q_1179 : (Cond.codeWith ⟨"MarriedStreetsLaw", "told", "(LMarriedStreets;I[J)I"⟩ method_7_code 4 (Option.some FieldType.int) [(0, 9, 12, 13)]) ∈ wsG := inGw (inT5 (i := 110) rfl) rfl
theorem q_1180 : (Cond.methodLink "MarriedStreetsLaw" 24 ⟨"MarriedStreets", "told", "(I)I"⟩) ∈ wsG := inGw (inT5 (i := 111) rfl) rfl
theorem q_1181 : (Cond.instanceMethod ⟨"MarriedStreets", "told", "(I)I"⟩) ∈ wsG := inGw (inT5 (i := 112) rfl) rfl
theorem q_1182 : (Cond.selects "MarriedStreets" ⟨"MarriedStreets", "told", "(I)I"⟩ ⟨"MarriedStreets", "told", "(I)I"⟩) ∈ wsG := inGw (inT5 (i := 113) rfl) rfl
theorem q_1183 : (Cond.code ⟨"MarriedStreets", "told", "(I)I"⟩ prog_1_method_9_code 2 (Option.some FieldType.int)) ∈ wsG := inGw (inT5 (i := 114) rfl) rfl
theorem q_1184 : (Cond.methodLink "MarriedStreets" 184 ⟨"MarriedStreets$Life", "couples", "()I"⟩) ∈ wsG := inGw (inT5 (i := 115) rfl) rfl
theorem q_1185 : (Cond.instanceMethod ⟨"MarriedStreets$Life", "couples", "()I"⟩) ∈ wsG := inGw (inT5 (i := 116) rfl) rfl
theorem q_1186 : (Cond.selects "MarriedStreets$Life" ⟨"MarriedStreets$Life", "couples", "()I"⟩ ⟨"MarriedStreets$Life", "couples", "()I"⟩) ∈ wsG := inGw (inT5 (i := 117) rfl) rfl
theorem q_1187 : (Cond.code ⟨"MarriedStreets$Life", "couples", "()I"⟩ prog_6_method_15_code 3 (Option.some FieldType.int)) ∈ wsG := inGw (inT5 (i := 118) rfl) rfl
theorem q_1188 : (Cond.methodLink "MarriedStreets" 187 ⟨"MarriedStreets$Life", "allTrees", "()I"⟩) ∈ wsG := inGw (inT5 (i := 119) rfl) rfl
theorem q_1189 : (Cond.instanceMethod ⟨"MarriedStreets$Life", "allTrees", "()I"⟩) ∈ wsG := inGw (inT5 (i := 120) rfl) rfl
theorem q_1190 : (Cond.selects "MarriedStreets$Life" ⟨"MarriedStreets$Life", "allTrees", "()I"⟩ ⟨"MarriedStreets$Life", "allTrees", "()I"⟩) ∈ wsG := inGw (inT5 (i := 121) rfl) rfl
theorem q_1191 : (Cond.code ⟨"MarriedStreets$Life", "allTrees", "()I"⟩ prog_6_method_16_code 3 (Option.some FieldType.int)) ∈ wsG := inGw (inT5 (i := 122) rfl) rfl
theorem q_1192 : (Cond.methodLink "MarriedStreets" 190 ⟨"MarriedStreets$Life", "allHoles", "()I"⟩) ∈ wsG := inGw (inT5 (i := 123) rfl) rfl
theorem q_1193 : (Cond.instanceMethod ⟨"MarriedStreets$Life", "allHoles", "()I"⟩) ∈ wsG := inGw (inT5 (i := 124) rfl) rfl
theorem q_1194 : (Cond.selects "MarriedStreets$Life" ⟨"MarriedStreets$Life", "allHoles", "()I"⟩ ⟨"MarriedStreets$Life", "allHoles", "()I"⟩) ∈ wsG := inGw (inT5 (i := 125) rfl) rfl
theorem q_1195 : (Cond.code ⟨"MarriedStreets$Life", "allHoles", "()I"⟩ prog_6_method_17_code 3 (Option.some FieldType.int)) ∈ wsG := inGw (inT5 (i := 126) rfl) rfl
theorem q_1196 : (Cond.methodLink "MarriedStreets" 193 ⟨"MarriedStreets$Life", "partedSoFar", "()I"⟩) ∈ wsG := inGw (inT5 (i := 127) rfl) rfl
theorem q_1197 : (Cond.methodLink "MarriedStreetsLaw" 140 ⟨"MarriedStreetsLaw", "street", "(LMarriedStreets;II[J)I"⟩) ∈ wsG := inGw (inT5 (i := 128) rfl) rfl
theorem q_1198 : (Cond.static ⟨"MarriedStreetsLaw", "street", "(LMarriedStreets;II[J)I"⟩) ∈ wsG := inGw (inT5 (i := 129) rfl) rfl
theorem q_1199 : (Cond.codeWith ⟨"MarriedStreetsLaw", "street", "(LMarriedStreets;II[J)I"⟩ method_8_code 5 (Option.some FieldType.int) [(0, 10, 13, 31), (0, 10, 17, 13)]) ∈ wsG := inGw (inT5 (i := 130) rfl) rfl
theorem q_1200 : (Cond.classLink "MarriedStreetsLaw" 31 "java/util/NoSuchElementException") ∈ wsG := inGw (inT5 (i := 131) rfl) rfl
theorem q_1201 : (Cond.methodLink "MarriedStreetsLaw" 27 ⟨"MarriedStreets", "street", "(II)I"⟩) ∈ wsG := inGw (inT5 (i := 132) rfl) rfl
theorem q_1202 : (Cond.instanceMethod ⟨"MarriedStreets", "street", "(II)I"⟩) ∈ wsG := inGw (inT5 (i := 133) rfl) rfl
theorem q_1203 : (Cond.selects "MarriedStreets" ⟨"MarriedStreets", "street", "(II)I"⟩ ⟨"MarriedStreets", "street", "(II)I"⟩) ∈ wsG := inGw (inT5 (i := 134) rfl) rfl
theorem q_1204 : (Cond.code ⟨"MarriedStreets", "street", "(II)I"⟩ prog_1_method_10_code 3 (Option.some FieldType.int)) ∈ wsG := inGw (inT5 (i := 135) rfl) rfl
theorem q_1205 : (Cond.methodLink "MarriedStreets" 196 ⟨"MarriedStreets", "needStreet", "(I)V"⟩) ∈ wsG := inGw (inT5 (i := 136) rfl) rfl
theorem q_1207 : (Cond.instanceMethod ⟨"MarriedStreets", "needStreet", "(I)V"⟩) ∈ wsG := inGw (inT5 (i := 138) rfl) rfl
theorem q_1208 : (Cond.code ⟨"MarriedStreets", "needStreet", "(I)V"⟩ prog_1_method_45_code 2 none) ∈ wsG := inGw (inT5 (i := 139) rfl) rfl
theorem q_1209 : (Cond.methodLink "MarriedStreets" 395 ⟨"MarriedStreets", "needElement", "(Z)V"⟩) ∈ wsG := inGw (inT5 (i := 140) rfl) rfl
theorem q_1211 : (Cond.instanceMethod ⟨"MarriedStreets", "needElement", "(Z)V"⟩) ∈ wsG := inGw (inT5 (i := 142) rfl) rfl
theorem q_1212 : (Cond.code ⟨"MarriedStreets", "needElement", "(Z)V"⟩ prog_1_method_47_code 2 none) ∈ wsG := inGw (inT5 (i := 143) rfl) rfl
theorem q_1213 : (Cond.classLink "MarriedStreets" 398 "java/util/NoSuchElementException") ∈ wsG := inGw (inT5 (i := 144) rfl) rfl
theorem q_1215 : (Cond.castable "java/util/NoSuchElementException" "java/util/NoSuchElementException") ∈ wsN := inNw (inT5 (i := 146) rfl) rfl
theorem q_1229 : (Cond.methodLink "MarriedStreets" 199 ⟨"MarriedStreets$City", "startOf", "(I)I"⟩) ∈ wsG := inGw (inT5 (i := 160) rfl) rfl
theorem q_1230 : (Cond.instanceMethod ⟨"MarriedStreets$City", "startOf", "(I)I"⟩) ∈ wsG := inGw (inT5 (i := 161) rfl) rfl
theorem q_1231 : (Cond.selects "MarriedStreets$City" ⟨"MarriedStreets$City", "startOf", "(I)I"⟩ ⟨"MarriedStreets$City", "startOf", "(I)I"⟩) ∈ wsG := inGw (inT5 (i := 162) rfl) rfl
theorem q_1232 : (Cond.code ⟨"MarriedStreets$City", "startOf", "(I)I"⟩ prog_2_method_21_code 2 (Option.some FieldType.int)) ∈ wsG := inGw (inT5 (i := 163) rfl) rfl
theorem q_1233 : (Cond.methodLink "MarriedStreets" 203 ⟨"MarriedStreets$City", "endOf", "(I)I"⟩) ∈ wsG := inGw (inT5 (i := 164) rfl) rfl
theorem q_1234 : (Cond.instanceMethod ⟨"MarriedStreets$City", "endOf", "(I)I"⟩) ∈ wsG := inGw (inT5 (i := 165) rfl) rfl
theorem q_1235 : (Cond.selects "MarriedStreets$City" ⟨"MarriedStreets$City", "endOf", "(I)I"⟩ ⟨"MarriedStreets$City", "endOf", "(I)I"⟩) ∈ wsG := inGw (inT5 (i := 166) rfl) rfl
theorem q_1236 : (Cond.code ⟨"MarriedStreets$City", "endOf", "(I)I"⟩ prog_2_method_22_code 2 (Option.some FieldType.int)) ∈ wsG := inGw (inT5 (i := 167) rfl) rfl
theorem q_1237 : (Cond.methodLink "MarriedStreets" 206 ⟨"MarriedStreets$City", "housesOf", "(I)I"⟩) ∈ wsG := inGw (inT5 (i := 168) rfl) rfl
theorem q_1238 : (Cond.methodLink "MarriedStreets" 209 ⟨"MarriedStreets$Life", "treesOf", "(I)I"⟩) ∈ wsG := inGw (inT5 (i := 169) rfl) rfl
theorem q_1239 : (Cond.methodLink "MarriedStreets" 212 ⟨"MarriedStreets$City", "lengthOf", "(I)I"⟩) ∈ wsG := inGw (inT5 (i := 170) rfl) rfl
theorem q_1240 : (Cond.methodLink "MarriedStreets" 218 ⟨"MarriedStreets$Life", "roleOf", "(I)I"⟩) ∈ wsG := inGw (inT5 (i := 171) rfl) rfl
theorem q_1241 : (Cond.methodLink "MarriedStreets" 221 ⟨"MarriedStreets$Life", "yearsOf", "(I)I"⟩) ∈ wsG := inGw (inT5 (i := 172) rfl) rfl
theorem q_1242 : (Cond.methodLink "MarriedStreets" 224 ⟨"MarriedStreets$Life", "holesOf", "(I)I"⟩) ∈ wsG := inGw (inT5 (i := 173) rfl) rfl
theorem q_1243 : (Cond.methodLink "MarriedStreetsLaw" 144 ⟨"MarriedStreetsLaw", "likes", "(LMarriedStreets;II[J)I"⟩) ∈ wsG := inGw (inT5 (i := 174) rfl) rfl
theorem q_1244 : (Cond.static ⟨"MarriedStreetsLaw", "likes", "(LMarriedStreets;II[J)I"⟩) ∈ wsG := inGw (inT5 (i := 175) rfl) rfl
theorem q_1245 : (Cond.codeWith ⟨"MarriedStreetsLaw", "likes", "(LMarriedStreets;II[J)I"⟩ method_9_code 5 (Option.some FieldType.int) [(0, 10, 13, 31), (0, 10, 17, 13)]) ∈ wsG := inGw (inT5 (i := 176) rfl) rfl
theorem q_1246 : (Cond.methodLink "MarriedStreetsLaw" 33 ⟨"MarriedStreets", "likes", "(II)I"⟩) ∈ wsG := inGw (inT5 (i := 177) rfl) rfl
theorem q_1247 : (Cond.instanceMethod ⟨"MarriedStreets", "likes", "(II)I"⟩) ∈ wsG := inGw (inT5 (i := 178) rfl) rfl
theorem q_1248 : (Cond.selects "MarriedStreets" ⟨"MarriedStreets", "likes", "(II)I"⟩ ⟨"MarriedStreets", "likes", "(II)I"⟩) ∈ wsG := inGw (inT5 (i := 179) rfl) rfl
theorem q_1249 : (Cond.code ⟨"MarriedStreets", "likes", "(II)I"⟩ prog_1_method_11_code 3 (Option.some FieldType.int)) ∈ wsG := inGw (inT5 (i := 180) rfl) rfl
theorem q_1250 : (Cond.methodLink "MarriedStreetsLaw" 147 ⟨"MarriedStreetsLaw", "banns", "(LMarriedStreets;II[J)I"⟩) ∈ wsG := inGw (inT5 (i := 181) rfl) rfl
theorem q_1251 : (Cond.static ⟨"MarriedStreetsLaw", "banns", "(LMarriedStreets;II[J)I"⟩) ∈ wsG := inGw (inT5 (i := 182) rfl) rfl
theorem q_1252 : (Cond.codeWith ⟨"MarriedStreetsLaw", "banns", "(LMarriedStreets;II[J)I"⟩ method_10_code 5 (Option.some FieldType.int) [(0, 10, 13, 31)]) ∈ wsG := inGw (inT5 (i := 183) rfl) rfl
theorem q_1253 : (Cond.methodLink "MarriedStreetsLaw" 36 ⟨"MarriedStreets", "banns", "(II)I"⟩) ∈ wsG := inGw (inT5 (i := 184) rfl) rfl
theorem q_1254 : (Cond.instanceMethod ⟨"MarriedStreets", "banns", "(II)I"⟩) ∈ wsG := inGw (inT5 (i := 185) rfl) rfl
theorem q_1255 : (Cond.selects "MarriedStreets" ⟨"MarriedStreets", "banns", "(II)I"⟩ ⟨"MarriedStreets", "banns", "(II)I"⟩) ∈ wsG := inGw (inT5 (i := 186) rfl) rfl
theorem q_1256 : (Cond.code ⟨"MarriedStreets", "banns", "(II)I"⟩ prog_1_method_12_code 3 (Option.some FieldType.int)) ∈ wsG := inGw (inT5 (i := 187) rfl) rfl
theorem q_1257 : (Cond.methodLink "MarriedStreetsLaw" 150 ⟨"MarriedStreetsLaw", "number", "(LMarriedStreets;II[J)I"⟩) ∈ wsG := inGw (inT5 (i := 188) rfl) rfl
theorem q_1258 : (Cond.static ⟨"MarriedStreetsLaw", "number", "(LMarriedStreets;II[J)I"⟩) ∈ wsG := inGw (inT5 (i := 189) rfl) rfl
theorem q_1259 : (Cond.codeWith ⟨"MarriedStreetsLaw", "number", "(LMarriedStreets;II[J)I"⟩ method_11_code 5 (Option.some FieldType.int) [(0, 10, 13, 42), (0, 10, 17, 31)]) ∈ wsG := inGw (inT5 (i := 190) rfl) rfl
theorem q_1260 : (Cond.classLink "MarriedStreetsLaw" 42 "java/lang/IndexOutOfBoundsException") ∈ wsG := inGw (inT5 (i := 191) rfl) rfl
theorem q_1261 : (Cond.methodLink "MarriedStreetsLaw" 39 ⟨"MarriedStreets", "number", "(II)I"⟩) ∈ wsG := inGw (inT5 (i := 192) rfl) rfl
theorem q_1262 : (Cond.instanceMethod ⟨"MarriedStreets", "number", "(II)I"⟩) ∈ wsG := inGw (inT5 (i := 193) rfl) rfl
theorem q_1263 : (Cond.selects "MarriedStreets" ⟨"MarriedStreets", "number", "(II)I"⟩ ⟨"MarriedStreets", "number", "(II)I"⟩) ∈ wsG := inGw (inT5 (i := 194) rfl) rfl
theorem q_1264 : (Cond.code ⟨"MarriedStreets", "number", "(II)I"⟩ prog_1_method_13_code 3 (Option.some FieldType.int)) ∈ wsG := inGw (inT5 (i := 195) rfl) rfl
theorem q_1265 : (Cond.methodLink "MarriedStreets" 235 ⟨"MarriedStreets", "needHouse", "(Z)V"⟩) ∈ wsG := inGw (inT5 (i := 196) rfl) rfl
theorem q_1267 : (Cond.instanceMethod ⟨"MarriedStreets", "needHouse", "(Z)V"⟩) ∈ wsG := inGw (inT5 (i := 198) rfl) rfl
theorem q_1268 : (Cond.code ⟨"MarriedStreets", "needHouse", "(Z)V"⟩ prog_1_method_48_code 2 none) ∈ wsG := inGw (inT5 (i := 199) rfl) rfl
theorem q_1269 : (Cond.classLink "MarriedStreets" 403 "java/lang/IndexOutOfBoundsException") ∈ wsG := inGw (inT5 (i := 200) rfl) rfl
theorem q_1271 : (Cond.castable "java/lang/IndexOutOfBoundsException" "java/lang/IndexOutOfBoundsException") ∈ wsN := inNw (inT5 (i := 202) rfl) rfl
theorem q_1285 : (Cond.methodLink "MarriedStreets" 238 ⟨"MarriedStreets$Life", "numberOf", "(II)I"⟩) ∈ wsG := inGw (inT5 (i := 216) rfl) rfl
theorem q_1286 : (Cond.static ⟨"MarriedStreets$Life", "numberOf", "(II)I"⟩) ∈ wsG := inGw (inT5 (i := 217) rfl) rfl
theorem q_1287 : (Cond.code ⟨"MarriedStreets$Life", "numberOf", "(II)I"⟩ prog_6_method_2_code 2 (Option.some FieldType.int)) ∈ wsG := inGw (inT5 (i := 218) rfl) rfl
theorem q_1288 : (Cond.methodLink "MarriedStreetsLaw" 153 ⟨"MarriedStreetsLaw", "letter", "(LMarriedStreets;II[J)I"⟩) ∈ wsG := inGw (inT5 (i := 219) rfl) rfl
theorem q_1289 : (Cond.static ⟨"MarriedStreetsLaw", "letter", "(LMarriedStreets;II[J)I"⟩) ∈ wsG := inGw (inT5 (i := 220) rfl) rfl
theorem q_1290 : (Cond.codeWith ⟨"MarriedStreetsLaw", "letter", "(LMarriedStreets;II[J)I"⟩ method_12_code 5 (Option.some FieldType.int) [(0, 10, 13, 31), (0, 10, 17, 13)]) ∈ wsG := inGw (inT5 (i := 221) rfl) rfl
theorem q_1291 : (Cond.methodLink "MarriedStreetsLaw" 44 ⟨"MarriedStreets", "letter", "(II)I"⟩) ∈ wsG := inGw (inT5 (i := 222) rfl) rfl
theorem q_1292 : (Cond.instanceMethod ⟨"MarriedStreets", "letter", "(II)I"⟩) ∈ wsG := inGw (inT5 (i := 223) rfl) rfl
theorem q_1293 : (Cond.selects "MarriedStreets" ⟨"MarriedStreets", "letter", "(II)I"⟩ ⟨"MarriedStreets", "letter", "(II)I"⟩) ∈ wsG := inGw (inT5 (i := 224) rfl) rfl
theorem q_1294 : (Cond.code ⟨"MarriedStreets", "letter", "(II)I"⟩ prog_1_method_14_code 6 (Option.some FieldType.int)) ∈ wsG := inGw (inT5 (i := 225) rfl) rfl
theorem q_1295 : (Cond.methodLink "MarriedStreets" 241 ⟨"MarriedStreets", "houseWith", "(II)I"⟩) ∈ wsG := inGw (inT5 (i := 226) rfl) rfl
theorem q_1297 : (Cond.instanceMethod ⟨"MarriedStreets", "houseWith", "(II)I"⟩) ∈ wsG := inGw (inT5 (i := 228) rfl) rfl
theorem q_1298 : (Cond.code ⟨"MarriedStreets", "houseWith", "(II)I"⟩ prog_1_method_51_code 3 (Option.some FieldType.int)) ∈ wsG := inGw (inT5 (i := 229) rfl) rfl
theorem q_1299 : (Cond.methodLink "MarriedStreets" 408 ⟨"MarriedStreets$Life", "houseOf", "(III)I"⟩) ∈ wsG := inGw (inT5 (i := 230) rfl) rfl
theorem q_1300 : (Cond.static ⟨"MarriedStreets$Life", "houseOf", "(III)I"⟩) ∈ wsG := inGw (inT5 (i := 231) rfl) rfl
theorem q_1301 : (Cond.code ⟨"MarriedStreets$Life", "houseOf", "(III)I"⟩ prog_6_method_3_code 4 (Option.some FieldType.int)) ∈ wsG := inGw (inT5 (i := 232) rfl) rfl
theorem q_1302 : (Cond.methodLink "MarriedStreets$Life" 15 ⟨"MarriedStreets$Life", "numberOf", "(II)I"⟩) ∈ wsG := inGw (inT5 (i := 233) rfl) rfl
theorem q_1303 : (Cond.methodLink "MarriedStreetsLaw" 156 ⟨"MarriedStreetsLaw", "last", "(LMarriedStreets;I[J)I"⟩) ∈ wsG := inGw (inT5 (i := 234) rfl) rfl
theorem q_1304 : (Cond.static ⟨"MarriedStreetsLaw", "last", "(LMarriedStreets;I[J)I"⟩) ∈ wsG := inGw (inT5 (i := 235) rfl) rfl
theorem q_1305 : (Cond.codeWith ⟨"MarriedStreetsLaw", "last", "(LMarriedStreets;I[J)I"⟩ method_13_code 4 (Option.some FieldType.int) [(0, 9, 12, 31)]) ∈ wsG := inGw (inT5 (i := 236) rfl) rfl
theorem q_1306 : (Cond.methodLink "MarriedStreetsLaw" 47 ⟨"MarriedStreets", "last", "(I)I"⟩) ∈ wsG := inGw (inT5 (i := 237) rfl) rfl
theorem q_1307 : (Cond.instanceMethod ⟨"MarriedStreets", "last", "(I)I"⟩) ∈ wsG := inGw (inT5 (i := 238) rfl) rfl
theorem q_1308 : (Cond.selects "MarriedStreets" ⟨"MarriedStreets", "last", "(I)I"⟩ ⟨"MarriedStreets", "last", "(I)I"⟩) ∈ wsG := inGw (inT5 (i := 239) rfl) rfl
theorem q_1309 : (Cond.code ⟨"MarriedStreets", "last", "(I)I"⟩ prog_1_method_15_code 2 (Option.some FieldType.int)) ∈ wsG := inGw (inT6 (i := 0) rfl) rfl
theorem q_1310 : (Cond.methodLink "MarriedStreets" 244 ⟨"MarriedStreets", "greatestNumber", "(I)I"⟩) ∈ wsG := inGw (inT6 (i := 1) rfl) rfl
theorem q_1312 : (Cond.instanceMethod ⟨"MarriedStreets", "greatestNumber", "(I)I"⟩) ∈ wsG := inGw (inT6 (i := 3) rfl) rfl
theorem q_1313 : (Cond.code ⟨"MarriedStreets", "greatestNumber", "(I)I"⟩ prog_1_method_52_code 4 (Option.some FieldType.int)) ∈ wsG := inGw (inT6 (i := 4) rfl) rfl
theorem q_1314 : (Cond.methodLink "MarriedStreetsLaw" 159 ⟨"MarriedStreetsLaw", "missing", "(LMarriedStreets;I[J)I"⟩) ∈ wsG := inGw (inT6 (i := 5) rfl) rfl
theorem q_1315 : (Cond.static ⟨"MarriedStreetsLaw", "missing", "(LMarriedStreets;I[J)I"⟩) ∈ wsG := inGw (inT6 (i := 6) rfl) rfl
theorem q_1316 : (Cond.codeWith ⟨"MarriedStreetsLaw", "missing", "(LMarriedStreets;I[J)I"⟩ method_14_code 4 (Option.some FieldType.int) [(0, 9, 12, 31)]) ∈ wsG := inGw (inT6 (i := 7) rfl) rfl
theorem q_1317 : (Cond.methodLink "MarriedStreetsLaw" 50 ⟨"MarriedStreets", "missing", "(I)I"⟩) ∈ wsG := inGw (inT6 (i := 8) rfl) rfl
theorem q_1318 : (Cond.instanceMethod ⟨"MarriedStreets", "missing", "(I)I"⟩) ∈ wsG := inGw (inT6 (i := 9) rfl) rfl
theorem q_1319 : (Cond.selects "MarriedStreets" ⟨"MarriedStreets", "missing", "(I)I"⟩ ⟨"MarriedStreets", "missing", "(I)I"⟩) ∈ wsG := inGw (inT6 (i := 10) rfl) rfl
theorem q_1320 : (Cond.code ⟨"MarriedStreets", "missing", "(I)I"⟩ prog_1_method_16_code 4 (Option.some FieldType.int)) ∈ wsG := inGw (inT6 (i := 11) rfl) rfl
theorem q_1321 : (Cond.methodLink "MarriedStreetsLaw" 166 ⟨"MarriedStreetsLaw", "stableFor", "(LMarriedStreets;I[J)I"⟩) ∈ wsG := inGw (inT6 (i := 12) rfl) rfl
theorem q_1322 : (Cond.static ⟨"MarriedStreetsLaw", "stableFor", "(LMarriedStreets;I[J)I"⟩) ∈ wsG := inGw (inT6 (i := 13) rfl) rfl
theorem q_1323 : (Cond.codeWith ⟨"MarriedStreetsLaw", "stableFor", "(LMarriedStreets;I[J)I"⟩ method_15_code 4 (Option.some FieldType.int) [(0, 9, 12, 31)]) ∈ wsG := inGw (inT6 (i := 14) rfl) rfl
theorem q_1324 : (Cond.methodLink "MarriedStreetsLaw" 53 ⟨"MarriedStreets", "stableFor", "(I)I"⟩) ∈ wsG := inGw (inT6 (i := 15) rfl) rfl
theorem q_1325 : (Cond.instanceMethod ⟨"MarriedStreets", "stableFor", "(I)I"⟩) ∈ wsG := inGw (inT6 (i := 16) rfl) rfl
theorem q_1326 : (Cond.selects "MarriedStreets" ⟨"MarriedStreets", "stableFor", "(I)I"⟩ ⟨"MarriedStreets", "stableFor", "(I)I"⟩) ∈ wsG := inGw (inT6 (i := 17) rfl) rfl
theorem q_1327 : (Cond.code ⟨"MarriedStreets", "stableFor", "(I)I"⟩ prog_1_method_18_code 2 (Option.some FieldType.int)) ∈ wsG := inGw (inT6 (i := 18) rfl) rfl
theorem q_1328 : (Cond.methodLink "MarriedStreets" 254 ⟨"MarriedStreets$Matcher", "firstStableMate", "(I)I"⟩) ∈ wsG := inGw (inT6 (i := 19) rfl) rfl
theorem q_1329 : (Cond.instanceMethod ⟨"MarriedStreets$Matcher", "firstStableMate", "(I)I"⟩) ∈ wsG := inGw (inT6 (i := 20) rfl) rfl
theorem q_1330 : (Cond.selects "MarriedStreets$Matcher" ⟨"MarriedStreets$Matcher", "firstStableMate", "(I)I"⟩ ⟨"MarriedStreets$Matcher", "firstStableMate", "(I)I"⟩) ∈ wsG := inGw (inT6 (i := 21) rfl) rfl
theorem q_1331 : (Cond.code ⟨"MarriedStreets$Matcher", "firstStableMate", "(I)I"⟩ prog_8_method_2_code 2 (Option.some FieldType.int)) ∈ wsG := inGw (inT6 (i := 22) rfl) rfl
theorem q_1332 : (Cond.methodLink "MarriedStreetsLaw" 173 ⟨"MarriedStreetsLaw", "bestFor", "(LMarriedStreets;I[J)I"⟩) ∈ wsG := inGw (inT6 (i := 23) rfl) rfl
theorem q_1333 : (Cond.static ⟨"MarriedStreetsLaw", "bestFor", "(LMarriedStreets;I[J)I"⟩) ∈ wsG := inGw (inT6 (i := 24) rfl) rfl
theorem q_1334 : (Cond.codeWith ⟨"MarriedStreetsLaw", "bestFor", "(LMarriedStreets;I[J)I"⟩ method_16_code 4 (Option.some FieldType.int) [(0, 9, 12, 31)]) ∈ wsG := inGw (inT6 (i := 25) rfl) rfl
theorem q_1335 : (Cond.methodLink "MarriedStreetsLaw" 56 ⟨"MarriedStreets", "bestFor", "(I)I"⟩) ∈ wsG := inGw (inT6 (i := 26) rfl) rfl
theorem q_1336 : (Cond.instanceMethod ⟨"MarriedStreets", "bestFor", "(I)I"⟩) ∈ wsG := inGw (inT6 (i := 27) rfl) rfl
theorem q_1337 : (Cond.selects "MarriedStreets" ⟨"MarriedStreets", "bestFor", "(I)I"⟩ ⟨"MarriedStreets", "bestFor", "(I)I"⟩) ∈ wsG := inGw (inT6 (i := 28) rfl) rfl
theorem q_1338 : (Cond.code ⟨"MarriedStreets", "bestFor", "(I)I"⟩ prog_1_method_20_code 2 (Option.some FieldType.int)) ∈ wsG := inGw (inT6 (i := 29) rfl) rfl
theorem q_1339 : (Cond.methodLink "MarriedStreets" 260 ⟨"MarriedStreets$Matcher", "warmestMate", "(I)I"⟩) ∈ wsG := inGw (inT6 (i := 30) rfl) rfl
theorem q_1340 : (Cond.instanceMethod ⟨"MarriedStreets$Matcher", "warmestMate", "(I)I"⟩) ∈ wsG := inGw (inT6 (i := 31) rfl) rfl
theorem q_1341 : (Cond.selects "MarriedStreets$Matcher" ⟨"MarriedStreets$Matcher", "warmestMate", "(I)I"⟩ ⟨"MarriedStreets$Matcher", "warmestMate", "(I)I"⟩) ∈ wsG := inGw (inT6 (i := 32) rfl) rfl
theorem q_1342 : (Cond.code ⟨"MarriedStreets$Matcher", "warmestMate", "(I)I"⟩ prog_8_method_3_code 2 (Option.some FieldType.int)) ∈ wsG := inGw (inT6 (i := 33) rfl) rfl
theorem q_1343 : (Cond.methodLink "MarriedStreetsLaw" 180 ⟨"MarriedStreetsLaw", "way", "(LMarriedStreets;II[J)I"⟩) ∈ wsG := inGw (inT6 (i := 34) rfl) rfl
theorem q_1344 : (Cond.static ⟨"MarriedStreetsLaw", "way", "(LMarriedStreets;II[J)I"⟩) ∈ wsG := inGw (inT6 (i := 35) rfl) rfl
theorem q_1345 : (Cond.codeWith ⟨"MarriedStreetsLaw", "way", "(LMarriedStreets;II[J)I"⟩ method_17_code 5 (Option.some FieldType.int) [(0, 10, 13, 31)]) ∈ wsG := inGw (inT6 (i := 36) rfl) rfl
theorem q_1346 : (Cond.methodLink "MarriedStreetsLaw" 59 ⟨"MarriedStreets", "way", "(II)I"⟩) ∈ wsG := inGw (inT6 (i := 37) rfl) rfl
theorem q_1347 : (Cond.instanceMethod ⟨"MarriedStreets", "way", "(II)I"⟩) ∈ wsG := inGw (inT6 (i := 38) rfl) rfl
theorem q_1348 : (Cond.selects "MarriedStreets" ⟨"MarriedStreets", "way", "(II)I"⟩ ⟨"MarriedStreets", "way", "(II)I"⟩) ∈ wsG := inGw (inT6 (i := 39) rfl) rfl
theorem q_1349 : (Cond.code ⟨"MarriedStreets", "way", "(II)I"⟩ prog_1_method_22_code 3 (Option.some FieldType.int)) ∈ wsG := inGw (inT6 (i := 40) rfl) rfl
theorem q_1350 : (Cond.methodLink "MarriedStreets" 267 ⟨"MarriedStreets", "needCorner", "(I)V"⟩) ∈ wsG := inGw (inT6 (i := 41) rfl) rfl
theorem q_1352 : (Cond.instanceMethod ⟨"MarriedStreets", "needCorner", "(I)V"⟩) ∈ wsG := inGw (inT6 (i := 43) rfl) rfl
theorem q_1353 : (Cond.code ⟨"MarriedStreets", "needCorner", "(I)V"⟩ prog_1_method_46_code 2 none) ∈ wsG := inGw (inT6 (i := 44) rfl) rfl
theorem q_1354 : (Cond.methodLink "MarriedStreets" 270 ⟨"MarriedStreets$Roads", "spread", "(LMarriedStreets$City;II)V"⟩) ∈ wsG := inGw (inT6 (i := 45) rfl) rfl
theorem q_1355 : (Cond.instanceMethod ⟨"MarriedStreets$Roads", "spread", "(LMarriedStreets$City;II)V"⟩) ∈ wsG := inGw (inT6 (i := 46) rfl) rfl
theorem q_1356 : (Cond.selects "MarriedStreets$Roads" ⟨"MarriedStreets$Roads", "spread", "(LMarriedStreets$City;II)V"⟩ ⟨"MarriedStreets$Roads", "spread", "(LMarriedStreets$City;II)V"⟩) ∈ wsG := inGw (inT6 (i := 47) rfl) rfl
theorem q_1357 : (Cond.code ⟨"MarriedStreets$Roads", "spread", "(LMarriedStreets$City;II)V"⟩ prog_10_method_2_code 6 none) ∈ wsG := inGw (inT6 (i := 48) rfl) rfl
theorem q_1358 : (Cond.constant "MarriedStreets$Roads" 17 1000000) ∈ wsG := inGw (inT6 (i := 49) rfl) rfl
theorem q_1359 : (Cond.methodLink "MarriedStreets$Roads" 18 ⟨"MarriedStreets$Rows", "fill", "([II)V"⟩) ∈ wsG := inGw (inT6 (i := 50) rfl) rfl
theorem q_1360 : (Cond.methodLink "MarriedStreets$Roads" 24 ⟨"MarriedStreets$Rows", "put", "([III)V"⟩) ∈ wsG := inGw (inT6 (i := 51) rfl) rfl
theorem q_1361 : (Cond.methodLink "MarriedStreets$Roads" 35 ⟨"MarriedStreets$City", "startOf", "(I)I"⟩) ∈ wsG := inGw (inT6 (i := 52) rfl) rfl
theorem q_1362 : (Cond.methodLink "MarriedStreets$Roads" 39 ⟨"MarriedStreets$City", "endOf", "(I)I"⟩) ∈ wsG := inGw (inT6 (i := 53) rfl) rfl
theorem q_1363 : (Cond.methodLink "MarriedStreets$Roads" 42 ⟨"MarriedStreets$City", "lengthOf", "(I)I"⟩) ∈ wsG := inGw (inT6 (i := 54) rfl) rfl
theorem q_1364 : (Cond.methodLink "MarriedStreets$Roads" 45 ⟨"MarriedStreets$Roads", "shorten", "(III)V"⟩) ∈ wsG := inGw (inT6 (i := 55) rfl) rfl
theorem q_1366 : (Cond.instanceMethod ⟨"MarriedStreets$Roads", "shorten", "(III)V"⟩) ∈ wsG := inGw (inT6 (i := 57) rfl) rfl
theorem q_1367 : (Cond.code ⟨"MarriedStreets$Roads", "shorten", "(III)V"⟩ prog_10_method_3_code 4 none) ∈ wsG := inGw (inT6 (i := 58) rfl) rfl
theorem q_1368 : (Cond.methodLink "MarriedStreets$Roads" 49 ⟨"MarriedStreets$Rows", "at", "([II)I"⟩) ∈ wsG := inGw (inT6 (i := 59) rfl) rfl
theorem q_1369 : (Cond.methodLink "MarriedStreets$Roads" 53 ⟨"java/lang/Math", "min", "(II)I"⟩) ∈ wsG := inGw (inT6 (i := 60) rfl) rfl
theorem q_1370 : (Cond.methodLink "MarriedStreets" 274 ⟨"MarriedStreets$Roads", "stepsTo", "(I)I"⟩) ∈ wsG := inGw (inT6 (i := 61) rfl) rfl
theorem q_1371 : (Cond.instanceMethod ⟨"MarriedStreets$Roads", "stepsTo", "(I)I"⟩) ∈ wsG := inGw (inT6 (i := 62) rfl) rfl
theorem q_1372 : (Cond.selects "MarriedStreets$Roads" ⟨"MarriedStreets$Roads", "stepsTo", "(I)I"⟩ ⟨"MarriedStreets$Roads", "stepsTo", "(I)I"⟩) ∈ wsG := inGw (inT6 (i := 63) rfl) rfl
theorem q_1373 : (Cond.code ⟨"MarriedStreets$Roads", "stepsTo", "(I)I"⟩ prog_10_method_4_code 3 (Option.some FieldType.int)) ∈ wsG := inGw (inT6 (i := 64) rfl) rfl
theorem q_1374 : (Cond.methodLink "MarriedStreetsLaw" 183 ⟨"MarriedStreetsLaw", "round", "(LMarriedStreets;I[J)I"⟩) ∈ wsG := inGw (inT6 (i := 65) rfl) rfl
theorem q_1375 : (Cond.static ⟨"MarriedStreetsLaw", "round", "(LMarriedStreets;I[J)I"⟩) ∈ wsG := inGw (inT6 (i := 66) rfl) rfl
theorem q_1376 : (Cond.codeWith ⟨"MarriedStreetsLaw", "round", "(LMarriedStreets;I[J)I"⟩ method_18_code 4 (Option.some FieldType.int) [(0, 9, 12, 13)]) ∈ wsG := inGw (inT6 (i := 67) rfl) rfl
theorem q_1377 : (Cond.methodLink "MarriedStreetsLaw" 62 ⟨"MarriedStreets", "round", "(I)I"⟩) ∈ wsG := inGw (inT6 (i := 68) rfl) rfl
theorem q_1378 : (Cond.instanceMethod ⟨"MarriedStreets", "round", "(I)I"⟩) ∈ wsG := inGw (inT6 (i := 69) rfl) rfl
theorem q_1379 : (Cond.selects "MarriedStreets" ⟨"MarriedStreets", "round", "(I)I"⟩ ⟨"MarriedStreets", "round", "(I)I"⟩) ∈ wsG := inGw (inT6 (i := 70) rfl) rfl
theorem q_1380 : (Cond.code ⟨"MarriedStreets", "round", "(I)I"⟩ prog_1_method_23_code 2 (Option.some FieldType.int)) ∈ wsG := inGw (inT6 (i := 71) rfl) rfl
theorem q_1381 : (Cond.methodLink "MarriedStreets" 277 ⟨"MarriedStreets$Roads", "shortestRound", "(LMarriedStreets$City;I)I"⟩) ∈ wsG := inGw (inT6 (i := 72) rfl) rfl
theorem q_1382 : (Cond.instanceMethod ⟨"MarriedStreets$Roads", "shortestRound", "(LMarriedStreets$City;I)I"⟩) ∈ wsG := inGw (inT6 (i := 73) rfl) rfl
theorem q_1383 : (Cond.selects "MarriedStreets$Roads" ⟨"MarriedStreets$Roads", "shortestRound", "(LMarriedStreets$City;I)I"⟩ ⟨"MarriedStreets$Roads", "shortestRound", "(LMarriedStreets$City;I)I"⟩) ∈ wsG := inGw (inT6 (i := 74) rfl) rfl
theorem q_1384 : (Cond.code ⟨"MarriedStreets$Roads", "shortestRound", "(LMarriedStreets$City;I)I"⟩ prog_10_method_5_code 3 (Option.some FieldType.int)) ∈ wsG := inGw (inT6 (i := 75) rfl) rfl
theorem q_1385 : (Cond.methodLink "MarriedStreets$Roads" 62 ⟨"MarriedStreets$Roads", "walk", "(LMarriedStreets$City;IIIII)V"⟩) ∈ wsG := inGw (inT6 (i := 76) rfl) rfl
theorem q_1387 : (Cond.instanceMethod ⟨"MarriedStreets$Roads", "walk", "(LMarriedStreets$City;IIIII)V"⟩) ∈ wsG := inGw (inT6 (i := 78) rfl) rfl
theorem q_1388 : (Cond.code ⟨"MarriedStreets$Roads", "walk", "(LMarriedStreets$City;IIIII)V"⟩ prog_10_method_6_code 10 none) ∈ wsG := inGw (inT6 (i := 79) rfl) rfl
theorem q_1389 : (Cond.methodLink "MarriedStreets$Roads" 66 ⟨"MarriedStreets$Roads", "isOnePiece", "(LMarriedStreets$City;I)Z"⟩) ∈ wsG := inGw (inT6 (i := 80) rfl) rfl
theorem q_1390 : (Cond.static ⟨"MarriedStreets$Roads", "isOnePiece", "(LMarriedStreets$City;I)Z"⟩) ∈ wsG := inGw (inT6 (i := 81) rfl) rfl
theorem q_1391 : (Cond.code ⟨"MarriedStreets$Roads", "isOnePiece", "(LMarriedStreets$City;I)Z"⟩ prog_10_method_7_code 7 (Option.some FieldType.boolean)) ∈ wsG := inGw (inT6 (i := 82) rfl) rfl
theorem q_1392 : (Cond.methodLink "MarriedStreetsLaw" 186 ⟨"MarriedStreetsLaw", "reach", "(LMarriedStreets;I[J)I"⟩) ∈ wsG := inGw (inT6 (i := 83) rfl) rfl
theorem q_1393 : (Cond.static ⟨"MarriedStreetsLaw", "reach", "(LMarriedStreets;I[J)I"⟩) ∈ wsG := inGw (inT6 (i := 84) rfl) rfl
theorem q_1394 : (Cond.codeWith ⟨"MarriedStreetsLaw", "reach", "(LMarriedStreets;I[J)I"⟩ method_19_code 4 (Option.some FieldType.int) [(0, 9, 12, 31)]) ∈ wsG := inGw (inT6 (i := 85) rfl) rfl
theorem q_1395 : (Cond.methodLink "MarriedStreetsLaw" 65 ⟨"MarriedStreets", "reach", "(I)I"⟩) ∈ wsG := inGw (inT6 (i := 86) rfl) rfl
theorem q_1396 : (Cond.instanceMethod ⟨"MarriedStreets", "reach", "(I)I"⟩) ∈ wsG := inGw (inT6 (i := 87) rfl) rfl
theorem q_1397 : (Cond.selects "MarriedStreets" ⟨"MarriedStreets", "reach", "(I)I"⟩ ⟨"MarriedStreets", "reach", "(I)I"⟩) ∈ wsG := inGw (inT6 (i := 88) rfl) rfl
theorem q_1398 : (Cond.code ⟨"MarriedStreets", "reach", "(I)I"⟩ prog_1_method_24_code 4 (Option.some FieldType.int)) ∈ wsG := inGw (inT6 (i := 89) rfl) rfl
theorem q_1399 : (Cond.methodLink "MarriedStreetsLaw" 189 ⟨"MarriedStreetsLaw", "bridges", "(LMarriedStreets;I[J)I"⟩) ∈ wsG := inGw (inT6 (i := 90) rfl) rfl
theorem q_1400 : (Cond.static ⟨"MarriedStreetsLaw", "bridges", "(LMarriedStreets;I[J)I"⟩) ∈ wsG := inGw (inT6 (i := 91) rfl) rfl
theorem q_1401 : (Cond.codeWith ⟨"MarriedStreetsLaw", "bridges", "(LMarriedStreets;I[J)I"⟩ method_20_code 4 (Option.some FieldType.int) [(0, 9, 12, 13)]) ∈ wsG := inGw (inT6 (i := 92) rfl) rfl
theorem q_1402 : (Cond.methodLink "MarriedStreetsLaw" 68 ⟨"MarriedStreets", "bridges", "(I)I"⟩) ∈ wsG := inGw (inT6 (i := 93) rfl) rfl
theorem q_1403 : (Cond.instanceMethod ⟨"MarriedStreets", "bridges", "(I)I"⟩) ∈ wsG := inGw (inT6 (i := 94) rfl) rfl
theorem q_1404 : (Cond.selects "MarriedStreets" ⟨"MarriedStreets", "bridges", "(I)I"⟩ ⟨"MarriedStreets", "bridges", "(I)I"⟩) ∈ wsG := inGw (inT6 (i := 95) rfl) rfl
theorem q_1405 : (Cond.code ⟨"MarriedStreets", "bridges", "(I)I"⟩ prog_1_method_25_code 5 (Option.some FieldType.int)) ∈ wsG := inGw (inT6 (i := 96) rfl) rfl
theorem q_1406 : (Cond.methodLink "MarriedStreetsLaw" 192 ⟨"MarriedStreetsLaw", "fair", "(LMarriedStreets;I[J)I"⟩) ∈ wsG := inGw (inT6 (i := 97) rfl) rfl
theorem q_1407 : (Cond.static ⟨"MarriedStreetsLaw", "fair", "(LMarriedStreets;I[J)I"⟩) ∈ wsG := inGw (inT6 (i := 98) rfl) rfl
theorem q_1408 : (Cond.codeWith ⟨"MarriedStreetsLaw", "fair", "(LMarriedStreets;I[J)I"⟩ method_21_code 4 (Option.some FieldType.int) [(0, 9, 12, 13)]) ∈ wsG := inGw (inT6 (i := 99) rfl) rfl
theorem q_1409 : (Cond.methodLink "MarriedStreetsLaw" 71 ⟨"MarriedStreets", "fair", "(I)I"⟩) ∈ wsG := inGw (inT6 (i := 100) rfl) rfl
theorem q_1410 : (Cond.instanceMethod ⟨"MarriedStreets", "fair", "(I)I"⟩) ∈ wsG := inGw (inT6 (i := 101) rfl) rfl
theorem q_1411 : (Cond.selects "MarriedStreets" ⟨"MarriedStreets", "fair", "(I)I"⟩ ⟨"MarriedStreets", "fair", "(I)I"⟩) ∈ wsG := inGw (inT6 (i := 102) rfl) rfl
theorem q_1412 : (Cond.code ⟨"MarriedStreets", "fair", "(I)I"⟩ prog_1_method_26_code 7 (Option.some FieldType.int)) ∈ wsG := inGw (inT6 (i := 103) rfl) rfl
theorem q_1413 : (Cond.methodLink "MarriedStreetsLaw" 199 ⟨"MarriedStreetsLaw", "mates", "(LMarriedStreets;II[J)I"⟩) ∈ wsG := inGw (inT6 (i := 104) rfl) rfl
theorem q_1414 : (Cond.static ⟨"MarriedStreetsLaw", "mates", "(LMarriedStreets;II[J)I"⟩) ∈ wsG := inGw (inT6 (i := 105) rfl) rfl
theorem q_1415 : (Cond.codeWith ⟨"MarriedStreetsLaw", "mates", "(LMarriedStreets;II[J)I"⟩ method_22_code 5 (Option.some FieldType.int) [(0, 10, 13, 31), (0, 10, 17, 13)]) ∈ wsG := inGw (inT6 (i := 106) rfl) rfl
theorem q_1416 : (Cond.methodLink "MarriedStreetsLaw" 74 ⟨"MarriedStreets", "mates", "(II)I"⟩) ∈ wsG := inGw (inT6 (i := 107) rfl) rfl
theorem q_1417 : (Cond.instanceMethod ⟨"MarriedStreets", "mates", "(II)I"⟩) ∈ wsG := inGw (inT6 (i := 108) rfl) rfl
theorem q_1418 : (Cond.selects "MarriedStreets" ⟨"MarriedStreets", "mates", "(II)I"⟩ ⟨"MarriedStreets", "mates", "(II)I"⟩) ∈ wsG := inGw (inT6 (i := 109) rfl) rfl
theorem q_1419 : (Cond.code ⟨"MarriedStreets", "mates", "(II)I"⟩ prog_1_method_28_code 6 (Option.some FieldType.int)) ∈ wsG := inGw (inT6 (i := 110) rfl) rfl
theorem q_1420 : (Cond.methodLink "MarriedStreets" 295 ⟨"MarriedStreets", "matesOf", "(II)I"⟩) ∈ wsG := inGw (inT6 (i := 111) rfl) rfl
theorem q_1422 : (Cond.instanceMethod ⟨"MarriedStreets", "matesOf", "(II)I"⟩) ∈ wsG := inGw (inT6 (i := 113) rfl) rfl
theorem q_1423 : (Cond.code ⟨"MarriedStreets", "matesOf", "(II)I"⟩ prog_1_method_54_code 7 (Option.some FieldType.int)) ∈ wsG := inGw (inT6 (i := 114) rfl) rfl
theorem q_1424 : (Cond.methodLink "MarriedStreets" 411 ⟨"MarriedStreets$Mail", "fits", "(II)Z"⟩) ∈ wsG := inGw (inT6 (i := 115) rfl) rfl
theorem q_1425 : (Cond.instanceMethod ⟨"MarriedStreets$Mail", "fits", "(II)Z"⟩) ∈ wsG := inGw (inT6 (i := 116) rfl) rfl
theorem q_1426 : (Cond.selects "MarriedStreets$Mail" ⟨"MarriedStreets$Mail", "fits", "(II)Z"⟩ ⟨"MarriedStreets$Mail", "fits", "(II)Z"⟩) ∈ wsG := inGw (inT6 (i := 117) rfl) rfl
theorem q_1427 : (Cond.code ⟨"MarriedStreets$Mail", "fits", "(II)Z"⟩ prog_7_method_6_code 3 (Option.some FieldType.boolean)) ∈ wsG := inGw (inT6 (i := 118) rfl) rfl
theorem q_1428 : (Cond.methodLink "MarriedStreets$Mail" 57 ⟨"MarriedStreets$Mail", "rightLines", "(II)I"⟩) ∈ wsG := inGw (inT6 (i := 119) rfl) rfl
theorem q_1429 : (Cond.instanceMethod ⟨"MarriedStreets$Mail", "rightLines", "(II)I"⟩) ∈ wsG := inGw (inT6 (i := 120) rfl) rfl
theorem q_1430 : (Cond.selects "MarriedStreets$Mail" ⟨"MarriedStreets$Mail", "rightLines", "(II)I"⟩ ⟨"MarriedStreets$Mail", "rightLines", "(II)I"⟩) ∈ wsG := inGw (inT6 (i := 121) rfl) rfl
theorem q_1431 : (Cond.code ⟨"MarriedStreets$Mail", "rightLines", "(II)I"⟩ prog_7_method_7_code 4 (Option.some FieldType.int)) ∈ wsG := inGw (inT6 (i := 122) rfl) rfl
theorem q_1432 : (Cond.methodLink "MarriedStreets$Mail" 60 ⟨"MarriedStreets$Life", "houseOf", "(III)I"⟩) ∈ wsG := inGw (inT6 (i := 123) rfl) rfl
theorem q_1433 : (Cond.methodLink "MarriedStreets" 298 ⟨"MarriedStreets", "mayBeAlone", "(I)I"⟩) ∈ wsG := inGw (inT6 (i := 124) rfl) rfl
theorem q_1435 : (Cond.instanceMethod ⟨"MarriedStreets", "mayBeAlone", "(I)I"⟩) ∈ wsG := inGw (inT6 (i := 126) rfl) rfl
theorem q_1436 : (Cond.code ⟨"MarriedStreets", "mayBeAlone", "(I)I"⟩ prog_1_method_55_code 2 (Option.some FieldType.int)) ∈ wsG := inGw (inT6 (i := 127) rfl) rfl
theorem q_1437 : (Cond.methodLink "MarriedStreets" 301 ⟨"java/lang/Integer", "bitCount", "(I)I"⟩) ∈ wsG := inGw (inT6 (i := 128) rfl) rfl
theorem q_1438 : (Cond.static ⟨"java/lang/Integer", "bitCount", "(I)I"⟩) ∈ wsG := inGw (inT6 (i := 129) rfl) rfl
theorem q_1439 : (Cond.code ⟨"java/lang/Integer", "bitCount", "(I)I"⟩ prog_21_method_49_code 1 (Option.some FieldType.int)) ∈ wsG := inGw (inT6 (i := 130) rfl) rfl
theorem q_1440 : (Cond.constant "java/lang/Integer" 265 1431655765) ∈ wsG := inGw (inT6 (i := 131) rfl) rfl
theorem q_1441 : (Cond.constant "java/lang/Integer" 266 858993459) ∈ wsG := inGw (inT6 (i := 132) rfl) rfl
theorem q_1442 : (Cond.constant "java/lang/Integer" 267 252645135) ∈ wsG := inGw (inT6 (i := 133) rfl) rfl
theorem q_1443 : (Cond.methodLink "MarriedStreetsLaw" 202 ⟨"MarriedStreetsLaw", "look", "(LMarriedStreets;II[J)I"⟩) ∈ wsG := inGw (inT6 (i := 134) rfl) rfl
theorem q_1444 : (Cond.static ⟨"MarriedStreetsLaw", "look", "(LMarriedStreets;II[J)I"⟩) ∈ wsG := inGw (inT6 (i := 135) rfl) rfl
theorem q_1445 : (Cond.codeWith ⟨"MarriedStreetsLaw", "look", "(LMarriedStreets;II[J)I"⟩ method_23_code 5 (Option.some FieldType.int) [(0, 10, 13, 31), (0, 10, 17, 13)]) ∈ wsG := inGw (inT6 (i := 136) rfl) rfl
theorem q_1446 : (Cond.methodLink "MarriedStreetsLaw" 77 ⟨"MarriedStreets", "look", "(II)I"⟩) ∈ wsG := inGw (inT6 (i := 137) rfl) rfl
theorem q_1447 : (Cond.instanceMethod ⟨"MarriedStreets", "look", "(II)I"⟩) ∈ wsG := inGw (inT6 (i := 138) rfl) rfl
theorem q_1448 : (Cond.selects "MarriedStreets" ⟨"MarriedStreets", "look", "(II)I"⟩ ⟨"MarriedStreets", "look", "(II)I"⟩) ∈ wsG := inGw (inT6 (i := 139) rfl) rfl
theorem q_1449 : (Cond.code ⟨"MarriedStreets", "look", "(II)I"⟩ prog_1_method_29_code 10 (Option.some FieldType.int)) ∈ wsG := inGw (inT6 (i := 140) rfl) rfl
theorem q_1450 : (Cond.methodLink "MarriedStreets" 306 ⟨"MarriedStreets$Mail", "has", "(I)Z"⟩) ∈ wsG := inGw (inT6 (i := 141) rfl) rfl
theorem q_1451 : (Cond.methodLink "MarriedStreets" 310 ⟨"MarriedStreets$Mail", "leftAtWorst", "(IIIII)I"⟩) ∈ wsG := inGw (inT6 (i := 142) rfl) rfl
theorem q_1452 : (Cond.static ⟨"MarriedStreets$Mail", "leftAtWorst", "(IIIII)I"⟩) ∈ wsG := inGw (inT6 (i := 143) rfl) rfl
theorem q_1453 : (Cond.code ⟨"MarriedStreets$Mail", "leftAtWorst", "(IIIII)I"⟩ prog_7_method_8_code 11 (Option.some FieldType.int)) ∈ wsG := inGw (inT6 (i := 144) rfl) rfl
theorem q_1454 : (Cond.methodLink "MarriedStreets$Mail" 66 ⟨"java/lang/Math", "max", "(II)I"⟩) ∈ wsG := inGw (inT6 (i := 145) rfl) rfl
theorem q_1455 : (Cond.methodLink "MarriedStreetsLaw" 205 ⟨"MarriedStreetsLaw", "right", "(LMarriedStreets;I[J)I"⟩) ∈ wsG := inGw (inT6 (i := 146) rfl) rfl
theorem q_1456 : (Cond.static ⟨"MarriedStreetsLaw", "right", "(LMarriedStreets;I[J)I"⟩) ∈ wsG := inGw (inT6 (i := 147) rfl) rfl
theorem q_1457 : (Cond.codeWith ⟨"MarriedStreetsLaw", "right", "(LMarriedStreets;I[J)I"⟩ method_24_code 4 (Option.some FieldType.int) [(0, 9, 12, 31)]) ∈ wsG := inGw (inT6 (i := 148) rfl) rfl
theorem q_1458 : (Cond.methodLink "MarriedStreetsLaw" 80 ⟨"MarriedStreets", "right", "(I)I"⟩) ∈ wsG := inGw (inT6 (i := 149) rfl) rfl
theorem q_1459 : (Cond.instanceMethod ⟨"MarriedStreets", "right", "(I)I"⟩) ∈ wsG := inGw (inT6 (i := 150) rfl) rfl
theorem q_1460 : (Cond.selects "MarriedStreets" ⟨"MarriedStreets", "right", "(I)I"⟩ ⟨"MarriedStreets", "right", "(I)I"⟩) ∈ wsG := inGw (inT6 (i := 151) rfl) rfl
theorem q_1461 : (Cond.code ⟨"MarriedStreets", "right", "(I)I"⟩ prog_1_method_30_code 2 (Option.some FieldType.int)) ∈ wsG := inGw (inT6 (i := 152) rfl) rfl
theorem q_1462 : (Cond.methodLink "MarriedStreets" 314 ⟨"MarriedStreets$Mail", "rightLines", "(II)I"⟩) ∈ wsG := inGw (inT6 (i := 153) rfl) rfl
theorem q_1463 : (Cond.methodLink "MarriedStreetsLaw" 216 ⟨"MarriedStreetsLaw", "suitors", "(LMarriedStreets;IIII[J)I"⟩) ∈ wsG := inGw (inT6 (i := 154) rfl) rfl
theorem q_1464 : (Cond.static ⟨"MarriedStreetsLaw", "suitors", "(LMarriedStreets;IIII[J)I"⟩) ∈ wsG := inGw (inT6 (i := 155) rfl) rfl
theorem q_1465 : (Cond.codeWith ⟨"MarriedStreetsLaw", "suitors", "(LMarriedStreets;IIII[J)I"⟩ method_25_code 7 (Option.some FieldType.int) [(0, 14, 17, 13)]) ∈ wsG := inGw (inT6 (i := 156) rfl) rfl
theorem q_1466 : (Cond.methodLink "MarriedStreetsLaw" 83 ⟨"MarriedStreets", "suitors", "(IIII)I"⟩) ∈ wsG := inGw (inT6 (i := 157) rfl) rfl
theorem q_1467 : (Cond.instanceMethod ⟨"MarriedStreets", "suitors", "(IIII)I"⟩) ∈ wsG := inGw (inT6 (i := 158) rfl) rfl
theorem q_1468 : (Cond.selects "MarriedStreets" ⟨"MarriedStreets", "suitors", "(IIII)I"⟩ ⟨"MarriedStreets", "suitors", "(IIII)I"⟩) ∈ wsG := inGw (inT6 (i := 159) rfl) rfl
theorem q_1469 : (Cond.code ⟨"MarriedStreets", "suitors", "(IIII)I"⟩ prog_1_method_33_code 5 (Option.some FieldType.int)) ∈ wsG := inGw (inT6 (i := 160) rfl) rfl
theorem q_1470 : (Cond.methodLink "MarriedStreets" 332 ⟨"MarriedStreets", "isDowry", "(I)Z"⟩) ∈ wsG := inGw (inT6 (i := 161) rfl) rfl
theorem q_1471 : (Cond.static ⟨"MarriedStreets", "isDowry", "(I)Z"⟩) ∈ wsG := inGw (inT6 (i := 162) rfl) rfl
theorem q_1472 : (Cond.code ⟨"MarriedStreets", "isDowry", "(I)Z"⟩ prog_1_method_50_code 1 (Option.some FieldType.boolean)) ∈ wsG := inGw (inT6 (i := 163) rfl) rfl
theorem q_1473 : (Cond.methodLink "MarriedStreets" 335 ⟨"MarriedStreets$Dowries", "findRests", "(III)V"⟩) ∈ wsG := inGw (inT6 (i := 164) rfl) rfl
theorem q_1474 : (Cond.instanceMethod ⟨"MarriedStreets$Dowries", "findRests", "(III)V"⟩) ∈ wsG := inGw (inT6 (i := 165) rfl) rfl
theorem q_1475 : (Cond.selects "MarriedStreets$Dowries" ⟨"MarriedStreets$Dowries", "findRests", "(III)V"⟩ ⟨"MarriedStreets$Dowries", "findRests", "(III)V"⟩) ∈ wsG := inGw (inT6 (i := 166) rfl) rfl
theorem q_1476 : (Cond.code ⟨"MarriedStreets$Dowries", "findRests", "(III)V"⟩ prog_3_method_3_code 6 none) ∈ wsG := inGw (inT6 (i := 167) rfl) rfl
theorem q_1477 : (Cond.methodLink "MarriedStreets$Dowries" 28 ⟨"MarriedStreets$Dowries", "bestAgainst", "(III)I"⟩) ∈ wsG := inGw (inT6 (i := 168) rfl) rfl
theorem q_1478 : (Cond.static ⟨"MarriedStreets$Dowries", "bestAgainst", "(III)I"⟩) ∈ wsG := inGw (inT6 (i := 169) rfl) rfl
theorem q_1479 : (Cond.code ⟨"MarriedStreets$Dowries", "bestAgainst", "(III)I"⟩ prog_3_method_4_code 5 (Option.some FieldType.int)) ∈ wsG := inGw (inT6 (i := 170) rfl) rfl
theorem q_1480 : (Cond.methodLink "MarriedStreets$Dowries" 38 ⟨"MarriedStreets$Dowries", "gain", "(III)I"⟩) ∈ wsG := inGw (inT6 (i := 171) rfl) rfl
theorem q_1481 : (Cond.static ⟨"MarriedStreets$Dowries", "gain", "(III)I"⟩) ∈ wsG := inGw (inT6 (i := 172) rfl) rfl
theorem q_1482 : (Cond.code ⟨"MarriedStreets$Dowries", "gain", "(III)I"⟩ prog_3_method_2_code 3 (Option.some FieldType.int)) ∈ wsG := inGw (inT6 (i := 173) rfl) rfl
theorem q_1483 : (Cond.methodLink "MarriedStreets$Dowries" 45 ⟨"java/lang/Math", "max", "(II)I"⟩) ∈ wsG := inGw (inT6 (i := 174) rfl) rfl
theorem q_1484 : (Cond.methodLink "MarriedStreets$Dowries" 32 ⟨"MarriedStreets$Rows", "put", "([III)V"⟩) ∈ wsG := inGw (inT6 (i := 175) rfl) rfl
theorem q_1485 : (Cond.methodLink "MarriedStreets$Dowries" 41 ⟨"MarriedStreets$Dowries", "weigh", "(IIII)V"⟩) ∈ wsG := inGw (inT6 (i := 176) rfl) rfl
theorem q_1487 : (Cond.instanceMethod ⟨"MarriedStreets$Dowries", "weigh", "(IIII)V"⟩) ∈ wsG := inGw (inT6 (i := 178) rfl) rfl
theorem q_1488 : (Cond.code ⟨"MarriedStreets$Dowries", "weigh", "(IIII)V"⟩ prog_3_method_5_code 5 none) ∈ wsG := inGw (inT6 (i := 179) rfl) rfl
theorem q_1489 : (Cond.methodLink "MarriedStreets$Dowries" 51 ⟨"MarriedStreets$Rows", "at", "([II)I"⟩) ∈ wsG := inGw (inT6 (i := 180) rfl) rfl
theorem q_1490 : (Cond.methodLink "MarriedStreetsLaw" 220 ⟨"MarriedStreetsLaw", "gets", "(LMarriedStreets;III[J)I"⟩) ∈ wsG := inGw (inT6 (i := 181) rfl) rfl
theorem q_1491 : (Cond.static ⟨"MarriedStreetsLaw", "gets", "(LMarriedStreets;III[J)I"⟩) ∈ wsG := inGw (inT6 (i := 182) rfl) rfl
theorem q_1492 : (Cond.codeWith ⟨"MarriedStreetsLaw", "gets", "(LMarriedStreets;III[J)I"⟩ method_26_code 6 (Option.some FieldType.int) [(0, 12, 15, 13)]) ∈ wsG := inGw (inT6 (i := 183) rfl) rfl
theorem q_1493 : (Cond.methodLink "MarriedStreetsLaw" 87 ⟨"MarriedStreets", "gets", "(III)I"⟩) ∈ wsG := inGw (inT6 (i := 184) rfl) rfl
theorem q_1494 : (Cond.instanceMethod ⟨"MarriedStreets", "gets", "(III)I"⟩) ∈ wsG := inGw (inT6 (i := 185) rfl) rfl
theorem q_1495 : (Cond.selects "MarriedStreets" ⟨"MarriedStreets", "gets", "(III)I"⟩ ⟨"MarriedStreets", "gets", "(III)I"⟩) ∈ wsG := inGw (inT6 (i := 186) rfl) rfl
theorem q_1496 : (Cond.code ⟨"MarriedStreets", "gets", "(III)I"⟩ prog_1_method_34_code 4 (Option.some FieldType.int)) ∈ wsG := inGw (inT6 (i := 187) rfl) rfl
theorem q_1497 : (Cond.methodLink "MarriedStreets" 348 ⟨"MarriedStreets$Dowries", "gain", "(III)I"⟩) ∈ wsG := inGw (inT6 (i := 188) rfl) rfl
theorem q_1498 : (Cond.methodLink "MarriedStreetsLaw" 224 ⟨"MarriedStreetsLaw", "ahead", "(LMarriedStreets;II[J)I"⟩) ∈ wsG := inGw (inT6 (i := 189) rfl) rfl
theorem q_1499 : (Cond.static ⟨"MarriedStreetsLaw", "ahead", "(LMarriedStreets;II[J)I"⟩) ∈ wsG := inGw (inT6 (i := 190) rfl) rfl
theorem q_1500 : (Cond.codeWith ⟨"MarriedStreetsLaw", "ahead", "(LMarriedStreets;II[J)I"⟩ method_27_code 5 (Option.some FieldType.int) [(0, 10, 13, 13)]) ∈ wsG := inGw (inT6 (i := 191) rfl) rfl
theorem q_1501 : (Cond.methodLink "MarriedStreetsLaw" 91 ⟨"MarriedStreets", "ahead", "(II)I"⟩) ∈ wsG := inGw (inT6 (i := 192) rfl) rfl
theorem q_1502 : (Cond.instanceMethod ⟨"MarriedStreets", "ahead", "(II)I"⟩) ∈ wsG := inGw (inT6 (i := 193) rfl) rfl
theorem q_1503 : (Cond.selects "MarriedStreets" ⟨"MarriedStreets", "ahead", "(II)I"⟩ ⟨"MarriedStreets", "ahead", "(II)I"⟩) ∈ wsG := inGw (inT6 (i := 194) rfl) rfl
theorem q_1504 : (Cond.code ⟨"MarriedStreets", "ahead", "(II)I"⟩ prog_1_method_35_code 4 (Option.some FieldType.int)) ∈ wsG := inGw (inT6 (i := 195) rfl) rfl
theorem q_1505 : (Cond.methodLink "MarriedStreets" 352 ⟨"MarriedStreets$Life", "copyFrom", "(LMarriedStreets$Life;)V"⟩) ∈ wsG := inGw (inT6 (i := 196) rfl) rfl
theorem q_1506 : (Cond.instanceMethod ⟨"MarriedStreets$Life", "copyFrom", "(LMarriedStreets$Life;)V"⟩) ∈ wsG := inGw (inT6 (i := 197) rfl) rfl
theorem q_1507 : (Cond.selects "MarriedStreets$Life" ⟨"MarriedStreets$Life", "copyFrom", "(LMarriedStreets$Life;)V"⟩ ⟨"MarriedStreets$Life", "copyFrom", "(LMarriedStreets$Life;)V"⟩) ∈ wsG := inGw (inT6 (i := 198) rfl) rfl
theorem q_1508 : (Cond.code ⟨"MarriedStreets$Life", "copyFrom", "(LMarriedStreets$Life;)V"⟩ prog_6_method_5_code 2 none) ∈ wsG := inGw (inT6 (i := 199) rfl) rfl
theorem q_1509 : (Cond.methodLink "MarriedStreets" 355 ⟨"MarriedStreets$Life", "turnYear", "()Z"⟩) ∈ wsG := inGw (inT6 (i := 200) rfl) rfl
theorem q_1510 : (Cond.methodLink "MarriedStreets" 358 ⟨"MarriedStreets$Life", "longestYears", "()I"⟩) ∈ wsG := inGw (inT6 (i := 201) rfl) rfl
theorem q_1511 : (Cond.instanceMethod ⟨"MarriedStreets$Life", "longestYears", "()I"⟩) ∈ wsG := inGw (inT6 (i := 202) rfl) rfl
theorem q_1512 : (Cond.selects "MarriedStreets$Life" ⟨"MarriedStreets$Life", "longestYears", "()I"⟩ ⟨"MarriedStreets$Life", "longestYears", "()I"⟩) ∈ wsG := inGw (inT6 (i := 203) rfl) rfl
theorem q_1513 : (Cond.code ⟨"MarriedStreets$Life", "longestYears", "()I"⟩ prog_6_method_18_code 3 (Option.some FieldType.int)) ∈ wsG := inGw (inT6 (i := 204) rfl) rfl
theorem q_1514 : (Cond.methodLink "MarriedStreets$Life" 55 ⟨"java/lang/Math", "max", "(II)I"⟩) ∈ wsG := inGw (inT6 (i := 205) rfl) rfl
theorem q_1515 : (Cond.methodLink "MarriedStreetsLaw" 227 ⟨"MarriedStreetsLaw", "centuries", "(LMarriedStreets;IIII[J)I"⟩) ∈ wsG := inGw (inT6 (i := 206) rfl) rfl
theorem q_1516 : (Cond.static ⟨"MarriedStreetsLaw", "centuries", "(LMarriedStreets;IIII[J)I"⟩) ∈ wsG := inGw (inT6 (i := 207) rfl) rfl
theorem q_1517 : (Cond.codeWith ⟨"MarriedStreetsLaw", "centuries", "(LMarriedStreets;IIII[J)I"⟩ method_28_code 7 (Option.some FieldType.int) [(0, 14, 17, 13)]) ∈ wsG := inGw (inT6 (i := 208) rfl) rfl
theorem q_1518 : (Cond.methodLink "MarriedStreetsLaw" 94 ⟨"MarriedStreets", "centuries", "(IIII)I"⟩) ∈ wsG := inGw (inT6 (i := 209) rfl) rfl
theorem q_1519 : (Cond.instanceMethod ⟨"MarriedStreets", "centuries", "(IIII)I"⟩) ∈ wsG := inGw (inT6 (i := 210) rfl) rfl
theorem q_1520 : (Cond.selects "MarriedStreets" ⟨"MarriedStreets", "centuries", "(IIII)I"⟩ ⟨"MarriedStreets", "centuries", "(IIII)I"⟩) ∈ wsG := inGw (inT6 (i := 211) rfl) rfl
theorem q_1521 : (Cond.code ⟨"MarriedStreets", "centuries", "(IIII)I"⟩ prog_1_method_36_code 6 (Option.some FieldType.int)) ∈ wsG := inGw (inT6 (i := 212) rfl) rfl
theorem q_1522 : (Cond.methodLink "MarriedStreets" 361 ⟨"MarriedStreets", "needCenturies", "(II)V"⟩) ∈ wsG := inGw (inT6 (i := 213) rfl) rfl
theorem q_1524 : (Cond.instanceMethod ⟨"MarriedStreets", "needCenturies", "(II)V"⟩) ∈ wsG := inGw (inT6 (i := 215) rfl) rfl
theorem q_1525 : (Cond.code ⟨"MarriedStreets", "needCenturies", "(II)V"⟩ prog_1_method_49_code 3 none) ∈ wsG := inGw (inT6 (i := 216) rfl) rfl
theorem q_1526 : (Cond.methodLink "MarriedStreets" 364 ⟨"MarriedStreets", "dreamCenturies", "(III)I"⟩) ∈ wsG := inGw (inT6 (i := 217) rfl) rfl
theorem q_1528 : (Cond.instanceMethod ⟨"MarriedStreets", "dreamCenturies", "(III)I"⟩) ∈ wsG := inGw (inT6 (i := 219) rfl) rfl
theorem q_1529 : (Cond.code ⟨"MarriedStreets", "dreamCenturies", "(III)I"⟩ prog_1_method_56_code 7 (Option.some FieldType.int)) ∈ wsG := inGw (inT6 (i := 220) rfl) rfl
theorem q_1530 : (Cond.methodLink "MarriedStreets" 414 ⟨"MarriedStreets", "nextSeed", "(I)I"⟩) ∈ wsG := inGw (inT6 (i := 221) rfl) rfl
theorem q_1531 : (Cond.static ⟨"MarriedStreets", "nextSeed", "(I)I"⟩) ∈ wsG := inGw (inT6 (i := 222) rfl) rfl
theorem q_1532 : (Cond.code ⟨"MarriedStreets", "nextSeed", "(I)I"⟩ prog_1_method_57_code 1 (Option.some FieldType.int)) ∈ wsG := inGw (inT6 (i := 223) rfl) rfl
theorem q_1533 : (Cond.constant "MarriedStreets" 423 1103515245) ∈ wsG := inGw (inT6 (i := 224) rfl) rfl
theorem q_1534 : (Cond.methodLink "MarriedStreets" 417 ⟨"MarriedStreets", "drawBelow", "(II)I"⟩) ∈ wsG := inGw (inT6 (i := 225) rfl) rfl
theorem q_1535 : (Cond.static ⟨"MarriedStreets", "drawBelow", "(II)I"⟩) ∈ wsG := inGw (inT6 (i := 226) rfl) rfl
theorem q_1536 : (Cond.code ⟨"MarriedStreets", "drawBelow", "(II)I"⟩ prog_1_method_58_code 2 (Option.some FieldType.int)) ∈ wsG := inGw (inT6 (i := 227) rfl) rfl
theorem q_1537 : (Cond.methodLink "MarriedStreets" 420 ⟨"MarriedStreets$Life", "quarrelIn", "(I)Z"⟩) ∈ wsG := inGw (inT6 (i := 228) rfl) rfl
theorem q_1538 : (Cond.methodLink "MarriedStreetsLaw" 230 ⟨"MarriedStreetsLaw", "span", "(LMarriedStreets;IIIIII[J)I"⟩) ∈ wsG := inGw (inT6 (i := 229) rfl) rfl
theorem q_1539 : (Cond.static ⟨"MarriedStreetsLaw", "span", "(LMarriedStreets;IIIIII[J)I"⟩) ∈ wsG := inGw (inT6 (i := 230) rfl) rfl
theorem q_1540 : (Cond.codeWith ⟨"MarriedStreetsLaw", "span", "(LMarriedStreets;IIIIII[J)I"⟩ method_29_code 9 (Option.some FieldType.int) [(0, 18, 21, 13)]) ∈ wsG := inGw (inT6 (i := 231) rfl) rfl
theorem q_1541 : (Cond.methodLink "MarriedStreetsLaw" 97 ⟨"MarriedStreets", "span", "(IIIIII)I"⟩) ∈ wsG := inGw (inT6 (i := 232) rfl) rfl
theorem q_1542 : (Cond.instanceMethod ⟨"MarriedStreets", "span", "(IIIIII)I"⟩) ∈ wsG := inGw (inT6 (i := 233) rfl) rfl
theorem q_1543 : (Cond.selects "MarriedStreets" ⟨"MarriedStreets", "span", "(IIIIII)I"⟩ ⟨"MarriedStreets", "span", "(IIIIII)I"⟩) ∈ wsG := inGw (inT6 (i := 234) rfl) rfl
theorem q_1544 : (Cond.code ⟨"MarriedStreets", "span", "(IIIIII)I"⟩ prog_1_method_37_code 11 (Option.some FieldType.int)) ∈ wsG := inGw (inT6 (i := 235) rfl) rfl
theorem q_1545 : (Cond.classLink "MarriedStreetsLaw" 102 "MarriedStreetsModel") ∈ wsG := inGw (inT6 (i := 236) rfl) rfl
theorem q_1546 : (Cond.instantiable "MarriedStreetsModel" 54) ∈ wsG := inGw (inT6 (i := 237) rfl) rfl
theorem q_1547 : (Cond.methodLink "MarriedStreetsLaw" 104 ⟨"MarriedStreetsModel", "<init>", "()V"⟩) ∈ wsG := inGw (inT6 (i := 238) rfl) rfl
theorem q_1548 : (Cond.instanceMethod ⟨"MarriedStreetsModel", "<init>", "()V"⟩) ∈ wsG := inGw (inT6 (i := 239) rfl) rfl
theorem q_1549 : (Cond.code ⟨"MarriedStreetsModel", "<init>", "()V"⟩ prog_14_method_1_code 1 none) ∈ wsG := inGw (inT7 (i := 0) rfl) rfl
theorem q_1550 : (Cond.methodLink "MarriedStreetsModel" 1 ⟨"java/lang/Object", "<init>", "()V"⟩) ∈ wsG := inGw (inT7 (i := 1) rfl) rfl
theorem q_1551 : (Cond.classLink "MarriedStreetsModel" 26 "[[I") ∈ wsG := inGw (inT7 (i := 2) rfl) rfl
theorem q_1553 : (Cond.methodLink "MarriedStreetsModel" 109 ⟨"MarriedStreetsModel", "tellsNothing", "()V"⟩) ∈ wsG := inGw (inT7 (i := 4) rfl) rfl
theorem q_1555 : (Cond.instanceMethod ⟨"MarriedStreetsModel", "tellsNothing", "()V"⟩) ∈ wsG := inGw (inT7 (i := 6) rfl) rfl
theorem q_1556 : (Cond.code ⟨"MarriedStreetsModel", "tellsNothing", "()V"⟩ prog_14_method_2_code 3 none) ∈ wsG := inGw (inT7 (i := 7) rfl) rfl
theorem q_1557 : (Cond.methodLink "MarriedStreetsModel" 112 ⟨"MarriedStreetsModel", "stands", "()V"⟩) ∈ wsG := inGw (inT7 (i := 8) rfl) rfl
theorem q_1559 : (Cond.instanceMethod ⟨"MarriedStreetsModel", "stands", "()V"⟩) ∈ wsG := inGw (inT7 (i := 10) rfl) rfl
theorem q_1560 : (Cond.code ⟨"MarriedStreetsModel", "stands", "()V"⟩ prog_14_method_32_code 2 none) ∈ wsG := inGw (inT7 (i := 11) rfl) rfl
theorem q_1561 : (Cond.methodLink "MarriedStreetsModel" 211 ⟨"MarriedStreetsModel", "lays", "([[I[[II)V"⟩) ∈ wsG := inGw (inT7 (i := 12) rfl) rfl
theorem q_1562 : (Cond.static ⟨"MarriedStreetsModel", "lays", "([[I[[II)V"⟩) ∈ wsG := inGw (inT7 (i := 13) rfl) rfl
theorem q_1563 : (Cond.code ⟨"MarriedStreetsModel", "lays", "([[I[[II)V"⟩ prog_14_method_30_code 5 none) ∈ wsG := inGw (inT7 (i := 14) rfl) rfl
theorem q_1564 : (Cond.fieldLink "MarriedStreetsModel" 115 "MarriedStreetsModel" "thrown" "I") ∈ wsG := inGw (inT7 (i := 15) rfl) rfl
theorem q_1565 : (Cond.fieldLink "MarriedStreetsModel" 118 "MarriedStreetsModel" "tape" "I") ∈ wsG := inGw (inT7 (i := 16) rfl) rfl
theorem q_1566 : (Cond.fieldLink "MarriedStreetsModel" 121 "MarriedStreetsModel" "size" "I") ∈ wsG := inGw (inT7 (i := 17) rfl) rfl
theorem q_1567 : (Cond.fieldLink "MarriedStreetsModel" 9 "MarriedStreetsModel" "place" "I") ∈ wsG := inGw (inT7 (i := 18) rfl) rfl
theorem q_1568 : (Cond.fieldLink "MarriedStreetsModel" 124 "MarriedStreetsModel" "at" "I") ∈ wsG := inGw (inT7 (i := 19) rfl) rfl
theorem q_1569 : (Cond.fieldLink "MarriedStreetsModel" 131 "MarriedStreetsModel" "fault" "I") ∈ wsG := inGw (inT7 (i := 20) rfl) rfl
theorem q_1570 : (Cond.fieldLink "MarriedStreetsModel" 134 "MarriedStreetsModel" "faultAt" "I") ∈ wsG := inGw (inT7 (i := 21) rfl) rfl
theorem q_1571 : (Cond.fieldLink "MarriedStreetsModel" 177 "MarriedStreetsModel" "clauses" "I") ∈ wsG := inGw (inT7 (i := 22) rfl) rfl
theorem q_1572 : (Cond.fieldLink "MarriedStreetsModel" 180 "MarriedStreetsModel" "open" "I") ∈ wsG := inGw (inT7 (i := 23) rfl) rfl
theorem q_1573 : (Cond.fieldLink "MarriedStreetsModel" 13 "MarriedStreetsModel" "fed" "[I") ∈ wsG := inGw (inT7 (i := 24) rfl) rfl
theorem q_1574 : (Cond.fieldLink "MarriedStreetsModel" 17 "MarriedStreetsModel" "refused" "[I") ∈ wsG := inGw (inT7 (i := 25) rfl) rfl
theorem q_1575 : (Cond.fieldLink "MarriedStreetsModel" 20 "MarriedStreetsModel" "readTold" "[I") ∈ wsG := inGw (inT7 (i := 26) rfl) rfl
theorem q_1576 : (Cond.fieldLink "MarriedStreetsModel" 23 "MarriedStreetsModel" "told" "[I") ∈ wsG := inGw (inT7 (i := 27) rfl) rfl
theorem q_1577 : (Cond.fieldLink "MarriedStreetsModel" 28 "MarriedStreetsModel" "readCorner" "[[I") ∈ wsG := inGw (inT7 (i := 28) rfl) rfl
theorem q_1578 : (Cond.fieldLink "MarriedStreetsModel" 31 "MarriedStreetsModel" "corner" "[[I") ∈ wsG := inGw (inT7 (i := 29) rfl) rfl
theorem q_1579 : (Cond.fieldLink "MarriedStreetsModel" 34 "MarriedStreetsModel" "readStreet" "[[I") ∈ wsG := inGw (inT7 (i := 30) rfl) rfl
theorem q_1580 : (Cond.fieldLink "MarriedStreetsModel" 37 "MarriedStreetsModel" "street" "[[I") ∈ wsG := inGw (inT7 (i := 31) rfl) rfl
theorem q_1581 : (Cond.fieldLink "MarriedStreetsModel" 40 "MarriedStreetsModel" "readLikes" "[[I") ∈ wsG := inGw (inT7 (i := 32) rfl) rfl
theorem q_1582 : (Cond.fieldLink "MarriedStreetsModel" 43 "MarriedStreetsModel" "likes" "[[I") ∈ wsG := inGw (inT7 (i := 33) rfl) rfl
theorem q_1583 : (Cond.fieldLink "MarriedStreetsModel" 46 "MarriedStreetsModel" "readNever" "[[I") ∈ wsG := inGw (inT7 (i := 34) rfl) rfl
theorem q_1584 : (Cond.fieldLink "MarriedStreetsModel" 49 "MarriedStreetsModel" "never" "[[I") ∈ wsG := inGw (inT7 (i := 35) rfl) rfl
theorem q_1585 : (Cond.fieldLink "MarriedStreetsModel" 52 "MarriedStreetsModel" "readGood" "[[I") ∈ wsG := inGw (inT7 (i := 36) rfl) rfl
theorem q_1586 : (Cond.fieldLink "MarriedStreetsModel" 55 "MarriedStreetsModel" "good" "[[I") ∈ wsG := inGw (inT7 (i := 37) rfl) rfl
theorem q_1587 : (Cond.fieldLink "MarriedStreetsModel" 215 "MarriedStreetsModel" "lawMany" "I") ∈ wsG := inGw (inT7 (i := 38) rfl) rfl
theorem q_1588 : (Cond.fieldLink "MarriedStreetsModel" 230 "MarriedStreetsModel" "readLawMany" "I") ∈ wsG := inGw (inT7 (i := 39) rfl) rfl
theorem q_1589 : (Cond.fieldLink "MarriedStreetsModel" 58 "MarriedStreetsModel" "law" "[[I") ∈ wsG := inGw (inT7 (i := 40) rfl) rfl
theorem q_1590 : (Cond.fieldLink "MarriedStreetsModel" 61 "MarriedStreetsModel" "readLaw" "[[I") ∈ wsG := inGw (inT7 (i := 41) rfl) rfl
theorem q_1591 : (Cond.fieldLink "MarriedStreetsModel" 64 "MarriedStreetsModel" "post" "[[I") ∈ wsG := inGw (inT7 (i := 42) rfl) rfl
theorem q_1592 : (Cond.fieldLink "MarriedStreetsModel" 67 "MarriedStreetsModel" "readPost" "[[I") ∈ wsG := inGw (inT7 (i := 43) rfl) rfl
theorem q_1593 : (Cond.fieldLink "MarriedStreetsModel" 70 "MarriedStreetsModel" "stack" "[I") ∈ wsG := inGw (inT7 (i := 44) rfl) rfl
theorem q_1594 : (Cond.fieldLink "MarriedStreetsModel" 73 "MarriedStreetsModel" "known" "[I") ∈ wsG := inGw (inT7 (i := 45) rfl) rfl
theorem q_1595 : (Cond.fieldLink "MarriedStreetsModel" 76 "MarriedStreetsModel" "step" "[[I") ∈ wsG := inGw (inT7 (i := 46) rfl) rfl
theorem q_1596 : (Cond.fieldLink "MarriedStreetsModel" 271 "MarriedStreetsModel" "steps" "I") ∈ wsG := inGw (inT7 (i := 47) rfl) rfl
theorem q_1597 : (Cond.fieldLink "MarriedStreetsModel" 79 "MarriedStreetsModel" "now" "[I") ∈ wsG := inGw (inT7 (i := 48) rfl) rfl
theorem q_1598 : (Cond.fieldLink "MarriedStreetsModel" 82 "MarriedStreetsModel" "trial" "[I") ∈ wsG := inGw (inT7 (i := 49) rfl) rfl
theorem q_1599 : (Cond.fieldLink "MarriedStreetsModel" 85 "MarriedStreetsModel" "before" "[[I") ∈ wsG := inGw (inT7 (i := 50) rfl) rfl
theorem q_1600 : (Cond.fieldLink "MarriedStreetsModel" 88 "MarriedStreetsModel" "kept" "[[I") ∈ wsG := inGw (inT7 (i := 51) rfl) rfl
theorem q_1601 : (Cond.fieldLink "MarriedStreetsModel" 91 "MarriedStreetsModel" "far" "[[I") ∈ wsG := inGw (inT7 (i := 52) rfl) rfl
theorem q_1602 : (Cond.fieldLink "MarriedStreetsModel" 218 "MarriedStreetsModel" "lines" "I") ∈ wsG := inGw (inT7 (i := 53) rfl) rfl
theorem q_1603 : (Cond.fieldLink "MarriedStreetsModel" 221 "MarriedStreetsModel" "works" "I") ∈ wsG := inGw (inT7 (i := 54) rfl) rfl
theorem q_1604 : (Cond.fieldLink "MarriedStreetsModel" 224 "MarriedStreetsModel" "refusedSteps" "I") ∈ wsG := inGw (inT7 (i := 55) rfl) rfl
theorem q_1605 : (Cond.fieldLink "MarriedStreetsModel" 227 "MarriedStreetsModel" "images" "I") ∈ wsG := inGw (inT7 (i := 56) rfl) rfl
theorem q_1606 : (Cond.fieldLink "MarriedStreetsModel" 435 "MarriedStreetsModel" "spot" "I") ∈ wsG := inGw (inT7 (i := 57) rfl) rfl
theorem q_1607 : (Cond.fieldLink "MarriedStreetsModel" 316 "MarriedStreetsModel" "begun" "I") ∈ wsG := inGw (inT7 (i := 58) rfl) rfl
theorem q_1608 : (Cond.fieldLink "MarriedStreetsModel" 326 "MarriedStreetsModel" "doneSteps" "I") ∈ wsG := inGw (inT7 (i := 59) rfl) rfl
theorem q_1609 : (Cond.fieldLink "MarriedStreetsModel" 94 "MarriedStreetsModel" "mates" "[I") ∈ wsG := inGw (inT7 (i := 60) rfl) rfl
theorem q_1610 : (Cond.fieldLink "MarriedStreetsModel" 97 "MarriedStreetsModel" "stableMates" "[I") ∈ wsG := inGw (inT7 (i := 61) rfl) rfl
theorem q_1611 : (Cond.fieldLink "MarriedStreetsModel" 100 "MarriedStreetsModel" "bestMates" "[I") ∈ wsG := inGw (inT7 (i := 62) rfl) rfl
theorem q_1612 : (Cond.fieldLink "MarriedStreetsModel" 374 "MarriedStreetsModel" "stables" "I") ∈ wsG := inGw (inT7 (i := 63) rfl) rfl
theorem q_1613 : (Cond.fieldLink "MarriedStreetsModel" 368 "MarriedStreetsModel" "warmest" "I") ∈ wsG := inGw (inT7 (i := 64) rfl) rfl
theorem q_1614 : (Cond.fieldLink "MarriedStreetsModel" 103 "MarriedStreetsModel" "walked" "[[I") ∈ wsG := inGw (inT7 (i := 65) rfl) rfl
theorem q_1615 : (Cond.fieldLink "MarriedStreetsModel" 106 "MarriedStreetsModel" "comesTo" "[I") ∈ wsG := inGw (inT7 (i := 66) rfl) rfl
theorem q_1616 : (Cond.fieldLink "MarriedStreetsModel" 422 "MarriedStreetsModel" "lots" "I") ∈ wsG := inGw (inT7 (i := 67) rfl) rfl
theorem q_1617 : (Cond.fieldLink "MarriedStreetsModel" 426 "MarriedStreetsModel" "quarrelled" "I") ∈ wsG := inGw (inT7 (i := 68) rfl) rfl
theorem q_1727 : (Cond.methodLink "MarriedStreetsLaw" 116 ⟨"MarriedStreetsModel", "thrown", "()I"⟩) ∈ wsG := inGw (inT7 (i := 178) rfl) rfl
theorem q_1728 : (Cond.instanceMethod ⟨"MarriedStreetsModel", "thrown", "()I"⟩) ∈ wsG := inGw (inT7 (i := 179) rfl) rfl
theorem q_1729 : (Cond.selects "MarriedStreetsModel" ⟨"MarriedStreetsModel", "thrown", "()I"⟩ ⟨"MarriedStreetsModel", "thrown", "()I"⟩) ∈ wsG := inGw (inT7 (i := 180) rfl) rfl
theorem q_1730 : (Cond.code ⟨"MarriedStreetsModel", "thrown", "()I"⟩ prog_14_method_3_code 1 (Option.some FieldType.int)) ∈ wsG := inGw (inT7 (i := 181) rfl) rfl
theorem q_1731 : (Cond.methodLink "MarriedStreetsLaw" 109 ⟨"MarriedStreetsModel", "feed", "(IIIII)I"⟩) ∈ wsG := inGw (inT7 (i := 182) rfl) rfl
theorem q_1732 : (Cond.instanceMethod ⟨"MarriedStreetsModel", "feed", "(IIIII)I"⟩) ∈ wsG := inGw (inT7 (i := 183) rfl) rfl
theorem q_1733 : (Cond.selects "MarriedStreetsModel" ⟨"MarriedStreetsModel", "feed", "(IIIII)I"⟩ ⟨"MarriedStreetsModel", "feed", "(IIIII)I"⟩) ∈ wsG := inGw (inT7 (i := 184) rfl) rfl
theorem q_1734 : (Cond.code ⟨"MarriedStreetsModel", "feed", "(IIIII)I"⟩ prog_14_method_10_code 8 (Option.some FieldType.int)) ∈ wsG := inGw (inT7 (i := 185) rfl) rfl
theorem q_1735 : (Cond.methodLink "MarriedStreetsLaw" 115 ⟨"MarriedStreetsModel", "city", "(I)I"⟩) ∈ wsG := inGw (inT7 (i := 186) rfl) rfl
theorem q_1736 : (Cond.instanceMethod ⟨"MarriedStreetsModel", "city", "(I)I"⟩) ∈ wsG := inGw (inT7 (i := 187) rfl) rfl
theorem q_1737 : (Cond.selects "MarriedStreetsModel" ⟨"MarriedStreetsModel", "city", "(I)I"⟩ ⟨"MarriedStreetsModel", "city", "(I)I"⟩) ∈ wsG := inGw (inT7 (i := 188) rfl) rfl
theorem q_1738 : (Cond.code ⟨"MarriedStreetsModel", "city", "(I)I"⟩ prog_14_method_29_code 2 (Option.some FieldType.int)) ∈ wsG := inGw (inT7 (i := 189) rfl) rfl
theorem q_1739 : (Cond.methodLink "MarriedStreetsModel" 149 ⟨"MarriedStreetsModel", "in", "(III)Z"⟩) ∈ wsG := inGw (inT7 (i := 190) rfl) rfl
theorem q_1740 : (Cond.static ⟨"MarriedStreetsModel", "in", "(III)Z"⟩) ∈ wsG := inGw (inT7 (i := 191) rfl) rfl
theorem q_1741 : (Cond.code ⟨"MarriedStreetsModel", "in", "(III)Z"⟩ prog_14_method_5_code 3 (Option.some FieldType.boolean)) ∈ wsG := inGw (inT7 (i := 192) rfl) rfl
theorem q_1742 : (Cond.methodLink "MarriedStreetsModel" 198 ⟨"MarriedStreetsModel", "bad", "(ZII)Z"⟩) ∈ wsG := inGw (inT7 (i := 193) rfl) rfl
theorem q_1744 : (Cond.instanceMethod ⟨"MarriedStreetsModel", "bad", "(ZII)Z"⟩) ∈ wsG := inGw (inT7 (i := 195) rfl) rfl
theorem q_1745 : (Cond.code ⟨"MarriedStreetsModel", "bad", "(ZII)Z"⟩ prog_14_method_4_code 4 (Option.some FieldType.boolean)) ∈ wsG := inGw (inT7 (i := 196) rfl) rfl
theorem q_1746 : (Cond.methodLink "MarriedStreetsModel" 202 ⟨"MarriedStreetsModel", "starts", "(I)V"⟩) ∈ wsG := inGw (inT7 (i := 197) rfl) rfl
theorem q_1748 : (Cond.instanceMethod ⟨"MarriedStreetsModel", "starts", "(I)V"⟩) ∈ wsG := inGw (inT7 (i := 199) rfl) rfl
theorem q_1749 : (Cond.code ⟨"MarriedStreetsModel", "starts", "(I)V"⟩ prog_14_method_24_code 2 none) ∈ wsG := inGw (inT7 (i := 200) rfl) rfl
theorem q_1750 : (Cond.methodLink "MarriedStreetsModel" 137 ⟨"MarriedStreetsModel", "blanks", "()V"⟩) ∈ wsG := inGw (inT7 (i := 201) rfl) rfl
theorem q_1752 : (Cond.instanceMethod ⟨"MarriedStreetsModel", "blanks", "()V"⟩) ∈ wsG := inGw (inT7 (i := 203) rfl) rfl
theorem q_1753 : (Cond.code ⟨"MarriedStreetsModel", "blanks", "()V"⟩ prog_14_method_12_code 1 none) ∈ wsG := inGw (inT7 (i := 204) rfl) rfl
theorem q_1754 : (Cond.methodLink "MarriedStreetsModel" 127 ⟨"MarriedStreetsModel", "byteAt", "(I)I"⟩) ∈ wsG := inGw (inT7 (i := 205) rfl) rfl
theorem q_1756 : (Cond.instanceMethod ⟨"MarriedStreetsModel", "byteAt", "(I)I"⟩) ∈ wsG := inGw (inT7 (i := 207) rfl) rfl
theorem q_1757 : (Cond.code ⟨"MarriedStreetsModel", "byteAt", "(I)I"⟩ prog_14_method_11_code 2 (Option.some FieldType.int)) ∈ wsG := inGw (inT7 (i := 208) rfl) rfl
theorem q_1758 : (Cond.methodLink "MarriedStreetsModel" 205 ⟨"MarriedStreetsModel", "clause", "()V"⟩) ∈ wsG := inGw (inT7 (i := 209) rfl) rfl
theorem q_1760 : (Cond.instanceMethod ⟨"MarriedStreetsModel", "clause", "()V"⟩) ∈ wsG := inGw (inT7 (i := 211) rfl) rfl
theorem q_1761 : (Cond.code ⟨"MarriedStreetsModel", "clause", "()V"⟩ prog_14_method_28_code 6 none) ∈ wsG := inGw (inT7 (i := 212) rfl) rfl
theorem q_1762 : (Cond.methodLink "MarriedStreetsModel" 187 ⟨"MarriedStreetsModel", "kindHere", "()I"⟩) ∈ wsG := inGw (inT7 (i := 213) rfl) rfl
theorem q_1764 : (Cond.instanceMethod ⟨"MarriedStreetsModel", "kindHere", "()I"⟩) ∈ wsG := inGw (inT7 (i := 215) rfl) rfl
theorem q_1765 : (Cond.code ⟨"MarriedStreetsModel", "kindHere", "()I"⟩ prog_14_method_26_code 1 (Option.some FieldType.int)) ∈ wsG := inGw (inT7 (i := 216) rfl) rfl
theorem q_1766 : (Cond.methodLink "MarriedStreetsModel" 170 ⟨"MarriedStreetsModel", "isWord", "(IIIIIII)Z"⟩) ∈ wsG := inGw (inT7 (i := 217) rfl) rfl
theorem q_1768 : (Cond.instanceMethod ⟨"MarriedStreetsModel", "isWord", "(IIIIIII)Z"⟩) ∈ wsG := inGw (inT7 (i := 219) rfl) rfl
theorem q_1769 : (Cond.code ⟨"MarriedStreetsModel", "isWord", "(IIIIIII)Z"⟩ prog_14_method_19_code 8 (Option.some FieldType.boolean)) ∈ wsG := inGw (inT7 (i := 220) rfl) rfl
theorem q_1770 : (Cond.methodLink "MarriedStreetsModel" 162 ⟨"MarriedStreetsModel", "wordHere", "()J"⟩) ∈ wsG := inGw (inT7 (i := 221) rfl) rfl
theorem q_1772 : (Cond.instanceMethod ⟨"MarriedStreetsModel", "wordHere", "()J"⟩) ∈ wsG := inGw (inT7 (i := 223) rfl) rfl
theorem q_1773 : (Cond.code ⟨"MarriedStreetsModel", "wordHere", "()J"⟩ prog_14_method_17_code 4 (Option.some FieldType.long)) ∈ wsG := inGw (inT7 (i := 224) rfl) rfl
theorem q_1774 : (Cond.methodLink "MarriedStreetsModel" 153 ⟨"MarriedStreetsModel", "isSmall", "(I)Z"⟩) ∈ wsG := inGw (inT7 (i := 225) rfl) rfl
theorem q_1775 : (Cond.static ⟨"MarriedStreetsModel", "isSmall", "(I)Z"⟩) ∈ wsG := inGw (inT7 (i := 226) rfl) rfl
theorem q_1776 : (Cond.code ⟨"MarriedStreetsModel", "isSmall", "(I)Z"⟩ prog_14_method_15_code 1 (Option.some FieldType.boolean)) ∈ wsG := inGw (inT7 (i := 227) rfl) rfl
theorem q_1777 : (Cond.constantLong "MarriedStreetsModel" 156 27) ∈ wsG := inGw (inT7 (i := 228) rfl) rfl
theorem q_1778 : (Cond.constantLong "MarriedStreetsModel" 158 97) ∈ wsG := inGw (inT7 (i := 229) rfl) rfl
theorem q_1779 : (Cond.constantLong "MarriedStreetsModel" 160 (-1)) ∈ wsG := inGw (inT7 (i := 230) rfl) rfl
theorem q_1780 : (Cond.methodLink "MarriedStreetsModel" 166 ⟨"MarriedStreetsModel", "seven", "(IIIIIII)J"⟩) ∈ wsG := inGw (inT7 (i := 231) rfl) rfl
theorem q_1781 : (Cond.static ⟨"MarriedStreetsModel", "seven", "(IIIIIII)J"⟩) ∈ wsG := inGw (inT7 (i := 232) rfl) rfl
theorem q_1782 : (Cond.code ⟨"MarriedStreetsModel", "seven", "(IIIIIII)J"⟩ prog_14_method_18_code 9 (Option.some FieldType.long)) ∈ wsG := inGw (inT7 (i := 233) rfl) rfl
theorem q_1783 : (Cond.methodLink "MarriedStreetsModel" 144 ⟨"MarriedStreetsModel", "wrong", "(II)V"⟩) ∈ wsG := inGw (inT7 (i := 234) rfl) rfl
theorem q_1785 : (Cond.instanceMethod ⟨"MarriedStreetsModel", "wrong", "(II)V"⟩) ∈ wsG := inGw (inT7 (i := 236) rfl) rfl
theorem q_1786 : (Cond.code ⟨"MarriedStreetsModel", "wrong", "(II)V"⟩ prog_14_method_13_code 3 none) ∈ wsG := inGw (inT7 (i := 237) rfl) rfl
theorem q_1787 : (Cond.methodLink "MarriedStreetsModel" 174 ⟨"MarriedStreetsModel", "skipWord", "()V"⟩) ∈ wsG := inGw (inT7 (i := 238) rfl) rfl
theorem q_1789 : (Cond.instanceMethod ⟨"MarriedStreetsModel", "skipWord", "()V"⟩) ∈ wsG := inGw (inT8 (i := 0) rfl) rfl
theorem q_1790 : (Cond.code ⟨"MarriedStreetsModel", "skipWord", "()V"⟩ prog_14_method_20_code 1 none) ∈ wsG := inGw (inT8 (i := 1) rfl) rfl
theorem q_1791 : (Cond.methodLink "MarriedStreetsModel" 183 ⟨"MarriedStreetsModel", "numberHere", "(II)I"⟩) ∈ wsG := inGw (inT8 (i := 2) rfl) rfl
theorem q_1793 : (Cond.instanceMethod ⟨"MarriedStreetsModel", "numberHere", "(II)I"⟩) ∈ wsG := inGw (inT8 (i := 4) rfl) rfl
theorem q_1794 : (Cond.code ⟨"MarriedStreetsModel", "numberHere", "(II)I"⟩ prog_14_method_16_code 5 (Option.some FieldType.int)) ∈ wsG := inGw (inT8 (i := 5) rfl) rfl
theorem q_1795 : (Cond.methodLink "MarriedStreetsModel" 140 ⟨"MarriedStreetsModel", "isDigit", "(I)Z"⟩) ∈ wsG := inGw (inT8 (i := 6) rfl) rfl
theorem q_1796 : (Cond.static ⟨"MarriedStreetsModel", "isDigit", "(I)Z"⟩) ∈ wsG := inGw (inT8 (i := 7) rfl) rfl
theorem q_1797 : (Cond.code ⟨"MarriedStreetsModel", "isDigit", "(I)Z"⟩ prog_14_method_14_code 1 (Option.some FieldType.boolean)) ∈ wsG := inGw (inT8 (i := 8) rfl) rfl
theorem q_1798 : (Cond.constant "MarriedStreetsModel" 148 100000) ∈ wsG := inGw (inT8 (i := 9) rfl) rfl
theorem q_1799 : (Cond.methodLink "MarriedStreetsModel" 191 ⟨"MarriedStreetsModel", "otherHere", "(II)I"⟩) ∈ wsG := inGw (inT8 (i := 10) rfl) rfl
theorem q_1801 : (Cond.instanceMethod ⟨"MarriedStreetsModel", "otherHere", "(II)I"⟩) ∈ wsG := inGw (inT8 (i := 12) rfl) rfl
theorem q_1802 : (Cond.code ⟨"MarriedStreetsModel", "otherHere", "(II)I"⟩ prog_14_method_27_code 5 (Option.some FieldType.int)) ∈ wsG := inGw (inT8 (i := 13) rfl) rfl
theorem q_1803 : (Cond.methodLink "MarriedStreetsModel" 194 ⟨"MarriedStreetsModel", "sign", "(I)V"⟩) ∈ wsG := inGw (inT8 (i := 14) rfl) rfl
theorem q_1805 : (Cond.instanceMethod ⟨"MarriedStreetsModel", "sign", "(I)V"⟩) ∈ wsG := inGw (inT8 (i := 16) rfl) rfl
theorem q_1806 : (Cond.code ⟨"MarriedStreetsModel", "sign", "(I)V"⟩ prog_14_method_22_code 2 none) ∈ wsG := inGw (inT8 (i := 17) rfl) rfl
theorem q_1807 : (Cond.methodLink "MarriedStreetsModel" 208 ⟨"MarriedStreetsModel", "ends", "()I"⟩) ∈ wsG := inGw (inT8 (i := 18) rfl) rfl
theorem q_1809 : (Cond.instanceMethod ⟨"MarriedStreetsModel", "ends", "()I"⟩) ∈ wsG := inGw (inT8 (i := 20) rfl) rfl
theorem q_1810 : (Cond.code ⟨"MarriedStreetsModel", "ends", "()I"⟩ prog_14_method_25_code 1 (Option.some FieldType.int)) ∈ wsG := inGw (inT8 (i := 21) rfl) rfl
theorem q_1811 : (Cond.methodLink "MarriedStreetsLaw" 122 ⟨"MarriedStreetsModel", "law", "(I)I"⟩) ∈ wsG := inGw (inT8 (i := 22) rfl) rfl
theorem q_1812 : (Cond.instanceMethod ⟨"MarriedStreetsModel", "law", "(I)I"⟩) ∈ wsG := inGw (inT8 (i := 23) rfl) rfl
theorem q_1813 : (Cond.selects "MarriedStreetsModel" ⟨"MarriedStreetsModel", "law", "(I)I"⟩ ⟨"MarriedStreetsModel", "law", "(I)I"⟩) ∈ wsG := inGw (inT8 (i := 24) rfl) rfl
theorem q_1814 : (Cond.code ⟨"MarriedStreetsModel", "law", "(I)I"⟩ prog_14_method_39_code 2 (Option.some FieldType.int)) ∈ wsG := inGw (inT8 (i := 25) rfl) rfl
theorem q_1815 : (Cond.methodLink "MarriedStreetsModel" 252 ⟨"MarriedStreetsModel", "sum", "()V"⟩) ∈ wsG := inGw (inT8 (i := 26) rfl) rfl
theorem q_1817 : (Cond.instanceMethod ⟨"MarriedStreetsModel", "sum", "()V"⟩) ∈ wsG := inGw (inT8 (i := 28) rfl) rfl
theorem q_1818 : (Cond.code ⟨"MarriedStreetsModel", "sum", "()V"⟩ prog_14_method_35_code 2 none) ∈ wsG := inGw (inT8 (i := 29) rfl) rfl
theorem q_1819 : (Cond.methodLink "MarriedStreetsModel" 233 ⟨"MarriedStreetsModel", "product", "()V"⟩) ∈ wsG := inGw (inT8 (i := 30) rfl) rfl
theorem q_1821 : (Cond.instanceMethod ⟨"MarriedStreetsModel", "product", "()V"⟩) ∈ wsG := inGw (inT8 (i := 32) rfl) rfl
theorem q_1822 : (Cond.code ⟨"MarriedStreetsModel", "product", "()V"⟩ prog_14_method_36_code 2 none) ∈ wsG := inGw (inT8 (i := 33) rfl) rfl
theorem q_1823 : (Cond.methodLink "MarriedStreetsModel" 242 ⟨"MarriedStreetsModel", "one", "()V"⟩) ∈ wsG := inGw (inT8 (i := 34) rfl) rfl
theorem q_1825 : (Cond.instanceMethod ⟨"MarriedStreetsModel", "one", "()V"⟩) ∈ wsG := inGw (inT8 (i := 36) rfl) rfl
theorem q_1826 : (Cond.code ⟨"MarriedStreetsModel", "one", "()V"⟩ prog_14_method_38_code 3 none) ∈ wsG := inGw (inT8 (i := 37) rfl) rfl
theorem q_1827 : (Cond.methodLink "MarriedStreetsModel" 248 ⟨"MarriedStreetsModel", "opens", "()Z"⟩) ∈ wsG := inGw (inT8 (i := 38) rfl) rfl
theorem q_1829 : (Cond.instanceMethod ⟨"MarriedStreetsModel", "opens", "()Z"⟩) ∈ wsG := inGw (inT8 (i := 40) rfl) rfl
theorem q_1830 : (Cond.code ⟨"MarriedStreetsModel", "opens", "()Z"⟩ prog_14_method_34_code 1 (Option.some FieldType.boolean)) ∈ wsG := inGw (inT8 (i := 41) rfl) rfl
theorem q_1831 : (Cond.methodLink "MarriedStreetsModel" 239 ⟨"MarriedStreetsModel", "notes", "(II)V"⟩) ∈ wsG := inGw (inT8 (i := 42) rfl) rfl
theorem q_1833 : (Cond.instanceMethod ⟨"MarriedStreetsModel", "notes", "(II)V"⟩) ∈ wsG := inGw (inT8 (i := 44) rfl) rfl
theorem q_1834 : (Cond.code ⟨"MarriedStreetsModel", "notes", "(II)V"⟩ prog_14_method_33_code 3 none) ∈ wsG := inGw (inT8 (i := 45) rfl) rfl
theorem q_1835 : (Cond.methodLink "MarriedStreetsModel" 255 ⟨"MarriedStreetsModel", "knownHere", "()I"⟩) ∈ wsG := inGw (inT8 (i := 46) rfl) rfl
theorem q_1837 : (Cond.instanceMethod ⟨"MarriedStreetsModel", "knownHere", "()I"⟩) ∈ wsG := inGw (inT8 (i := 48) rfl) rfl
theorem q_1838 : (Cond.code ⟨"MarriedStreetsModel", "knownHere", "()I"⟩ prog_14_method_37_code 1 (Option.some FieldType.int)) ∈ wsG := inGw (inT8 (i := 49) rfl) rfl
theorem q_1839 : (Cond.methodLink "MarriedStreetsModel" 245 ⟨"MarriedStreetsModel", "takes", "(IIIIIII)Z"⟩) ∈ wsG := inGw (inT8 (i := 50) rfl) rfl
theorem q_1841 : (Cond.instanceMethod ⟨"MarriedStreetsModel", "takes", "(IIIIIII)Z"⟩) ∈ wsG := inGw (inT8 (i := 52) rfl) rfl
theorem q_1842 : (Cond.code ⟨"MarriedStreetsModel", "takes", "(IIIIIII)Z"⟩ prog_14_method_21_code 9 (Option.some FieldType.boolean)) ∈ wsG := inGw (inT8 (i := 53) rfl) rfl
theorem q_1843 : (Cond.methodLink "MarriedStreetsModel" 236 ⟨"MarriedStreetsModel", "takesSign", "(I)Z"⟩) ∈ wsG := inGw (inT8 (i := 54) rfl) rfl
theorem q_1845 : (Cond.instanceMethod ⟨"MarriedStreetsModel", "takesSign", "(I)Z"⟩) ∈ wsG := inGw (inT8 (i := 56) rfl) rfl
theorem q_1846 : (Cond.code ⟨"MarriedStreetsModel", "takesSign", "(I)Z"⟩ prog_14_method_23_code 3 (Option.some FieldType.boolean)) ∈ wsG := inGw (inT8 (i := 57) rfl) rfl
theorem q_1847 : (Cond.methodLink "MarriedStreetsLaw" 128 ⟨"MarriedStreetsModel", "post", "(I)I"⟩) ∈ wsG := inGw (inT8 (i := 58) rfl) rfl
theorem q_1848 : (Cond.instanceMethod ⟨"MarriedStreetsModel", "post", "(I)I"⟩) ∈ wsG := inGw (inT8 (i := 59) rfl) rfl
theorem q_1849 : (Cond.selects "MarriedStreetsModel" ⟨"MarriedStreetsModel", "post", "(I)I"⟩ ⟨"MarriedStreetsModel", "post", "(I)I"⟩) ∈ wsG := inGw (inT8 (i := 60) rfl) rfl
theorem q_1850 : (Cond.code ⟨"MarriedStreetsModel", "post", "(I)I"⟩ prog_14_method_44_code 6 (Option.some FieldType.int)) ∈ wsG := inGw (inT8 (i := 61) rfl) rfl
theorem q_1851 : (Cond.methodLink "MarriedStreetsLaw" 132 ⟨"MarriedStreetsModel", "fault", "()I"⟩) ∈ wsG := inGw (inT8 (i := 62) rfl) rfl
theorem q_1852 : (Cond.instanceMethod ⟨"MarriedStreetsModel", "fault", "()I"⟩) ∈ wsG := inGw (inT8 (i := 63) rfl) rfl
theorem q_1853 : (Cond.selects "MarriedStreetsModel" ⟨"MarriedStreetsModel", "fault", "()I"⟩ ⟨"MarriedStreetsModel", "fault", "()I"⟩) ∈ wsG := inGw (inT8 (i := 64) rfl) rfl
theorem q_1854 : (Cond.code ⟨"MarriedStreetsModel", "fault", "()I"⟩ prog_14_method_45_code 1 (Option.some FieldType.int)) ∈ wsG := inGw (inT8 (i := 65) rfl) rfl
theorem q_1855 : (Cond.methodLink "MarriedStreetsLaw" 125 ⟨"MarriedStreetsModel", "work", "(I)I"⟩) ∈ wsG := inGw (inT8 (i := 66) rfl) rfl
theorem q_1856 : (Cond.instanceMethod ⟨"MarriedStreetsModel", "work", "(I)I"⟩) ∈ wsG := inGw (inT8 (i := 67) rfl) rfl
theorem q_1857 : (Cond.selects "MarriedStreetsModel" ⟨"MarriedStreetsModel", "work", "(I)I"⟩ ⟨"MarriedStreetsModel", "work", "(I)I"⟩) ∈ wsG := inGw (inT8 (i := 68) rfl) rfl
theorem q_1858 : (Cond.code ⟨"MarriedStreetsModel", "work", "(I)I"⟩ prog_14_method_57_code 2 (Option.some FieldType.int)) ∈ wsG := inGw (inT8 (i := 69) rfl) rfl
theorem q_1859 : (Cond.methodLink "MarriedStreetsModel" 274 ⟨"MarriedStreetsModel", "readsStep", "()V"⟩) ∈ wsG := inGw (inT8 (i := 70) rfl) rfl
theorem q_1861 : (Cond.instanceMethod ⟨"MarriedStreetsModel", "readsStep", "()V"⟩) ∈ wsG := inGw (inT8 (i := 72) rfl) rfl
theorem q_1862 : (Cond.code ⟨"MarriedStreetsModel", "readsStep", "()V"⟩ prog_14_method_43_code 3 none) ∈ wsG := inGw (inT8 (i := 73) rfl) rfl
theorem q_1863 : (Cond.methodLink "MarriedStreetsModel" 268 ⟨"MarriedStreetsModel", "stepHere", "()I"⟩) ∈ wsG := inGw (inT8 (i := 74) rfl) rfl
theorem q_1865 : (Cond.instanceMethod ⟨"MarriedStreetsModel", "stepHere", "()I"⟩) ∈ wsG := inGw (inT8 (i := 76) rfl) rfl
theorem q_1866 : (Cond.code ⟨"MarriedStreetsModel", "stepHere", "()I"⟩ prog_14_method_42_code 1 (Option.some FieldType.int)) ∈ wsG := inGw (inT8 (i := 77) rfl) rfl
theorem q_1867 : (Cond.methodLink "MarriedStreetsModel" 329 ⟨"MarriedStreetsModel", "copies", "([I[I)V"⟩) ∈ wsG := inGw (inT8 (i := 78) rfl) rfl
theorem q_1868 : (Cond.static ⟨"MarriedStreetsModel", "copies", "([I[I)V"⟩) ∈ wsG := inGw (inT8 (i := 79) rfl) rfl
theorem q_1869 : (Cond.code ⟨"MarriedStreetsModel", "copies", "([I[I)V"⟩ prog_14_method_31_code 3 none) ∈ wsG := inGw (inT8 (i := 80) rfl) rfl
theorem q_1870 : (Cond.methodLink "MarriedStreetsModel" 319 ⟨"MarriedStreetsModel", "goes", "(II)V"⟩) ∈ wsG := inGw (inT8 (i := 81) rfl) rfl
theorem q_1872 : (Cond.instanceMethod ⟨"MarriedStreetsModel", "goes", "(II)V"⟩) ∈ wsG := inGw (inT8 (i := 83) rfl) rfl
theorem q_1873 : (Cond.code ⟨"MarriedStreetsModel", "goes", "(II)V"⟩ prog_14_method_56_code 5 none) ∈ wsG := inGw (inT8 (i := 84) rfl) rfl
theorem q_1874 : (Cond.methodLink "MarriedStreetsModel" 322 ⟨"MarriedStreetsModel", "does", "([I[I)Z"⟩) ∈ wsG := inGw (inT8 (i := 85) rfl) rfl
theorem q_1876 : (Cond.instanceMethod ⟨"MarriedStreetsModel", "does", "([I[I)Z"⟩) ∈ wsG := inGw (inT8 (i := 87) rfl) rfl
theorem q_1877 : (Cond.code ⟨"MarriedStreetsModel", "does", "([I[I)Z"⟩ prog_14_method_55_code 5 (Option.some FieldType.boolean)) ∈ wsG := inGw (inT8 (i := 88) rfl) rfl
theorem q_1878 : (Cond.methodLink "MarriedStreetsModel" 289 ⟨"MarriedStreetsModel", "mateOf", "([II)I"⟩) ∈ wsG := inGw (inT8 (i := 89) rfl) rfl
theorem q_1879 : (Cond.static ⟨"MarriedStreetsModel", "mateOf", "([II)I"⟩) ∈ wsG := inGw (inT8 (i := 90) rfl) rfl
theorem q_1880 : (Cond.code ⟨"MarriedStreetsModel", "mateOf", "([II)I"⟩ prog_14_method_46_code 2 (Option.some FieldType.int)) ∈ wsG := inGw (inT8 (i := 91) rfl) rfl
theorem q_1881 : (Cond.methodLink "MarriedStreetsModel" 297 ⟨"MarriedStreetsModel", "bannsOf", "([III)I"⟩) ∈ wsG := inGw (inT8 (i := 92) rfl) rfl
theorem q_1883 : (Cond.instanceMethod ⟨"MarriedStreetsModel", "bannsOf", "([III)I"⟩) ∈ wsG := inGw (inT8 (i := 94) rfl) rfl
theorem q_1884 : (Cond.code ⟨"MarriedStreetsModel", "bannsOf", "([III)I"⟩ prog_14_method_49_code 4 (Option.some FieldType.int)) ∈ wsG := inGw (inT8 (i := 95) rfl) rfl
theorem q_1885 : (Cond.methodLink "MarriedStreetsModel" 280 ⟨"MarriedStreetsModel", "crossOf", "(II)I"⟩) ∈ wsG := inGw (inT8 (i := 96) rfl) rfl
theorem q_1887 : (Cond.instanceMethod ⟨"MarriedStreetsModel", "crossOf", "(II)I"⟩) ∈ wsG := inGw (inT8 (i := 98) rfl) rfl
theorem q_1888 : (Cond.code ⟨"MarriedStreetsModel", "crossOf", "(II)I"⟩ prog_14_method_48_code 5 (Option.some FieldType.int)) ∈ wsG := inGw (inT8 (i := 99) rfl) rfl
theorem q_1889 : (Cond.methodLink "MarriedStreetsModel" 283 ⟨"MarriedStreetsModel", "lengthOf", "(I)I"⟩) ∈ wsG := inGw (inT8 (i := 100) rfl) rfl
theorem q_1891 : (Cond.instanceMethod ⟨"MarriedStreetsModel", "lengthOf", "(I)I"⟩) ∈ wsG := inGw (inT8 (i := 102) rfl) rfl
theorem q_1892 : (Cond.code ⟨"MarriedStreetsModel", "lengthOf", "(I)I"⟩ prog_14_method_47_code 2 (Option.some FieldType.int)) ∈ wsG := inGw (inT8 (i := 103) rfl) rfl
theorem q_1893 : (Cond.methodLink "MarriedStreetsModel" 277 ⟨"MarriedStreetsModel", "away", "(II)I"⟩) ∈ wsG := inGw (inT8 (i := 104) rfl) rfl
theorem q_1894 : (Cond.static ⟨"MarriedStreetsModel", "away", "(II)I"⟩) ∈ wsG := inGw (inT8 (i := 105) rfl) rfl
theorem q_1895 : (Cond.code ⟨"MarriedStreetsModel", "away", "(II)I"⟩ prog_14_method_8_code 2 (Option.some FieldType.int)) ∈ wsG := inGw (inT8 (i := 106) rfl) rfl
theorem q_1896 : (Cond.methodLink "MarriedStreetsModel" 286 ⟨"MarriedStreetsModel", "byLaw", "()I"⟩) ∈ wsG := inGw (inT8 (i := 107) rfl) rfl
theorem q_1898 : (Cond.instanceMethod ⟨"MarriedStreetsModel", "byLaw", "()I"⟩) ∈ wsG := inGw (inT8 (i := 109) rfl) rfl
theorem q_1899 : (Cond.code ⟨"MarriedStreetsModel", "byLaw", "()I"⟩ prog_14_method_41_code 3 (Option.some FieldType.int)) ∈ wsG := inGw (inT8 (i := 110) rfl) rfl
theorem q_1900 : (Cond.methodLink "MarriedStreetsModel" 264 ⟨"MarriedStreetsModel", "by", "(III)I"⟩) ∈ wsG := inGw (inT8 (i := 111) rfl) rfl
theorem q_1901 : (Cond.static ⟨"MarriedStreetsModel", "by", "(III)I"⟩) ∈ wsG := inGw (inT8 (i := 112) rfl) rfl
theorem q_1902 : (Cond.code ⟨"MarriedStreetsModel", "by", "(III)I"⟩ prog_14_method_40_code 3 (Option.some FieldType.int)) ∈ wsG := inGw (inT8 (i := 113) rfl) rfl
theorem q_1903 : (Cond.methodLink "MarriedStreetsModel" 258 ⟨"MarriedStreetsModel", "less", "(II)I"⟩) ∈ wsG := inGw (inT8 (i := 114) rfl) rfl
theorem q_1904 : (Cond.static ⟨"MarriedStreetsModel", "less", "(II)I"⟩) ∈ wsG := inGw (inT8 (i := 115) rfl) rfl
theorem q_1905 : (Cond.code ⟨"MarriedStreetsModel", "less", "(II)I"⟩ prog_14_method_6_code 2 (Option.some FieldType.int)) ∈ wsG := inGw (inT8 (i := 116) rfl) rfl
theorem q_1906 : (Cond.methodLink "MarriedStreetsModel" 261 ⟨"MarriedStreetsModel", "more", "(II)I"⟩) ∈ wsG := inGw (inT8 (i := 117) rfl) rfl
theorem q_1907 : (Cond.static ⟨"MarriedStreetsModel", "more", "(II)I"⟩) ∈ wsG := inGw (inT8 (i := 118) rfl) rfl
theorem q_1908 : (Cond.code ⟨"MarriedStreetsModel", "more", "(II)I"⟩ prog_14_method_7_code 2 (Option.some FieldType.int)) ∈ wsG := inGw (inT8 (i := 119) rfl) rfl
theorem q_1909 : (Cond.methodLink "MarriedStreetsModel" 301 ⟨"MarriedStreetsModel", "marries", "([III)V"⟩) ∈ wsG := inGw (inT8 (i := 120) rfl) rfl
theorem q_1910 : (Cond.static ⟨"MarriedStreetsModel", "marries", "([III)V"⟩) ∈ wsG := inGw (inT8 (i := 121) rfl) rfl
theorem q_1911 : (Cond.code ⟨"MarriedStreetsModel", "marries", "([III)V"⟩ prog_14_method_50_code 3 none) ∈ wsG := inGw (inT8 (i := 122) rfl) rfl
theorem q_1912 : (Cond.methodLink "MarriedStreetsModel" 293 ⟨"MarriedStreetsModel", "parts", "([II)V"⟩) ∈ wsG := inGw (inT8 (i := 123) rfl) rfl
theorem q_1913 : (Cond.static ⟨"MarriedStreetsModel", "parts", "([II)V"⟩) ∈ wsG := inGw (inT8 (i := 124) rfl) rfl
theorem q_1914 : (Cond.code ⟨"MarriedStreetsModel", "parts", "([II)V"⟩ prog_14_method_51_code 6 none) ∈ wsG := inGw (inT8 (i := 125) rfl) rfl
theorem q_1915 : (Cond.methodLink "MarriedStreetsModel" 305 ⟨"MarriedStreetsModel", "quarrels", "([II)Z"⟩) ∈ wsG := inGw (inT8 (i := 126) rfl) rfl
theorem q_1916 : (Cond.static ⟨"MarriedStreetsModel", "quarrels", "([II)Z"⟩) ∈ wsG := inGw (inT8 (i := 127) rfl) rfl
theorem q_1917 : (Cond.code ⟨"MarriedStreetsModel", "quarrels", "([II)Z"⟩ prog_14_method_53_code 3 (Option.some FieldType.boolean)) ∈ wsG := inGw (inT8 (i := 128) rfl) rfl
theorem q_1918 : (Cond.methodLink "MarriedStreetsModel" 309 ⟨"MarriedStreetsModel", "repaves", "([II)Z"⟩) ∈ wsG := inGw (inT8 (i := 129) rfl) rfl
theorem q_1919 : (Cond.static ⟨"MarriedStreetsModel", "repaves", "([II)Z"⟩) ∈ wsG := inGw (inT8 (i := 130) rfl) rfl
theorem q_1920 : (Cond.code ⟨"MarriedStreetsModel", "repaves", "([II)Z"⟩ prog_14_method_52_code 4 (Option.some FieldType.boolean)) ∈ wsG := inGw (inT8 (i := 131) rfl) rfl
theorem q_1921 : (Cond.methodLink "MarriedStreetsModel" 312 ⟨"MarriedStreetsModel", "yearEnds", "([I)Z"⟩) ∈ wsG := inGw (inT8 (i := 132) rfl) rfl
theorem q_1923 : (Cond.instanceMethod ⟨"MarriedStreetsModel", "yearEnds", "([I)Z"⟩) ∈ wsG := inGw (inT8 (i := 134) rfl) rfl
theorem q_1924 : (Cond.code ⟨"MarriedStreetsModel", "yearEnds", "([I)Z"⟩ prog_14_method_54_code 3 (Option.some FieldType.boolean)) ∈ wsG := inGw (inT8 (i := 135) rfl) rfl
theorem q_1925 : (Cond.methodLink "MarriedStreetsLaw" 136 ⟨"MarriedStreetsModel", "undo", "()I"⟩) ∈ wsG := inGw (inT8 (i := 136) rfl) rfl
theorem q_1926 : (Cond.instanceMethod ⟨"MarriedStreetsModel", "undo", "()I"⟩) ∈ wsG := inGw (inT8 (i := 137) rfl) rfl
theorem q_1927 : (Cond.selects "MarriedStreetsModel" ⟨"MarriedStreetsModel", "undo", "()I"⟩ ⟨"MarriedStreetsModel", "undo", "()I"⟩) ∈ wsG := inGw (inT8 (i := 138) rfl) rfl
theorem q_1928 : (Cond.code ⟨"MarriedStreetsModel", "undo", "()I"⟩ prog_14_method_58_code 1 (Option.some FieldType.int)) ∈ wsG := inGw (inT8 (i := 139) rfl) rfl
theorem q_1929 : (Cond.methodLink "MarriedStreetsLaw" 139 ⟨"MarriedStreetsModel", "told", "(I)I"⟩) ∈ wsG := inGw (inT8 (i := 140) rfl) rfl
theorem q_1930 : (Cond.instanceMethod ⟨"MarriedStreetsModel", "told", "(I)I"⟩) ∈ wsG := inGw (inT8 (i := 141) rfl) rfl
theorem q_1931 : (Cond.selects "MarriedStreetsModel" ⟨"MarriedStreetsModel", "told", "(I)I"⟩ ⟨"MarriedStreetsModel", "told", "(I)I"⟩) ∈ wsG := inGw (inT8 (i := 142) rfl) rfl
theorem q_1932 : (Cond.code ⟨"MarriedStreetsModel", "told", "(I)I"⟩ prog_14_method_61_code 2 (Option.some FieldType.int)) ∈ wsG := inGw (inT8 (i := 143) rfl) rfl
theorem q_1933 : (Cond.methodLink "MarriedStreetsModel" 333 ⟨"MarriedStreetsModel", "couplesIn", "([I)I"⟩) ∈ wsG := inGw (inT8 (i := 144) rfl) rfl
theorem q_1935 : (Cond.instanceMethod ⟨"MarriedStreetsModel", "couplesIn", "([I)I"⟩) ∈ wsG := inGw (inT8 (i := 146) rfl) rfl
theorem q_1936 : (Cond.code ⟨"MarriedStreetsModel", "couplesIn", "([I)I"⟩ prog_14_method_59_code 4 (Option.some FieldType.int)) ∈ wsG := inGw (inT8 (i := 147) rfl) rfl
theorem q_1937 : (Cond.methodLink "MarriedStreetsModel" 337 ⟨"MarriedStreetsModel", "sumOf", "([II)I"⟩) ∈ wsG := inGw (inT8 (i := 148) rfl) rfl
theorem q_1939 : (Cond.instanceMethod ⟨"MarriedStreetsModel", "sumOf", "([II)I"⟩) ∈ wsG := inGw (inT8 (i := 150) rfl) rfl
theorem q_1940 : (Cond.code ⟨"MarriedStreetsModel", "sumOf", "([II)I"⟩ prog_14_method_60_code 5 (Option.some FieldType.int)) ∈ wsG := inGw (inT8 (i := 151) rfl) rfl
theorem q_1941 : (Cond.methodLink "MarriedStreetsLaw" 143 ⟨"MarriedStreetsModel", "street", "(II)I"⟩) ∈ wsG := inGw (inT8 (i := 152) rfl) rfl
theorem q_1942 : (Cond.instanceMethod ⟨"MarriedStreetsModel", "street", "(II)I"⟩) ∈ wsG := inGw (inT8 (i := 153) rfl) rfl
theorem q_1943 : (Cond.selects "MarriedStreetsModel" ⟨"MarriedStreetsModel", "street", "(II)I"⟩ ⟨"MarriedStreetsModel", "street", "(II)I"⟩) ∈ wsG := inGw (inT8 (i := 154) rfl) rfl
theorem q_1944 : (Cond.code ⟨"MarriedStreetsModel", "street", "(II)I"⟩ prog_14_method_64_code 3 (Option.some FieldType.int)) ∈ wsG := inGw (inT8 (i := 155) rfl) rfl
theorem q_1945 : (Cond.methodLink "MarriedStreetsModel" 340 ⟨"MarriedStreetsModel", "isStreet", "(I)Z"⟩) ∈ wsG := inGw (inT8 (i := 156) rfl) rfl
theorem q_1947 : (Cond.instanceMethod ⟨"MarriedStreetsModel", "isStreet", "(I)Z"⟩) ∈ wsG := inGw (inT8 (i := 158) rfl) rfl
theorem q_1948 : (Cond.code ⟨"MarriedStreetsModel", "isStreet", "(I)Z"⟩ prog_14_method_62_code 2 (Option.some FieldType.boolean)) ∈ wsG := inGw (inT8 (i := 159) rfl) rfl
theorem q_1949 : (Cond.methodLink "MarriedStreetsLaw" 146 ⟨"MarriedStreetsModel", "likes", "(II)I"⟩) ∈ wsG := inGw (inT8 (i := 160) rfl) rfl
theorem q_1950 : (Cond.instanceMethod ⟨"MarriedStreetsModel", "likes", "(II)I"⟩) ∈ wsG := inGw (inT8 (i := 161) rfl) rfl
theorem q_1951 : (Cond.selects "MarriedStreetsModel" ⟨"MarriedStreetsModel", "likes", "(II)I"⟩ ⟨"MarriedStreetsModel", "likes", "(II)I"⟩) ∈ wsG := inGw (inT8 (i := 162) rfl) rfl
theorem q_1952 : (Cond.code ⟨"MarriedStreetsModel", "likes", "(II)I"⟩ prog_14_method_65_code 3 (Option.some FieldType.int)) ∈ wsG := inGw (inT8 (i := 163) rfl) rfl
theorem q_1953 : (Cond.methodLink "MarriedStreetsLaw" 149 ⟨"MarriedStreetsModel", "banns", "(II)I"⟩) ∈ wsG := inGw (inT8 (i := 164) rfl) rfl
theorem q_1954 : (Cond.instanceMethod ⟨"MarriedStreetsModel", "banns", "(II)I"⟩) ∈ wsG := inGw (inT8 (i := 165) rfl) rfl
theorem q_1955 : (Cond.selects "MarriedStreetsModel" ⟨"MarriedStreetsModel", "banns", "(II)I"⟩ ⟨"MarriedStreetsModel", "banns", "(II)I"⟩) ∈ wsG := inGw (inT8 (i := 166) rfl) rfl
theorem q_1956 : (Cond.code ⟨"MarriedStreetsModel", "banns", "(II)I"⟩ prog_14_method_66_code 3 (Option.some FieldType.int)) ∈ wsG := inGw (inT8 (i := 167) rfl) rfl
theorem q_1957 : (Cond.methodLink "MarriedStreetsLaw" 152 ⟨"MarriedStreetsModel", "number", "(II)I"⟩) ∈ wsG := inGw (inT8 (i := 168) rfl) rfl
theorem q_1958 : (Cond.instanceMethod ⟨"MarriedStreetsModel", "number", "(II)I"⟩) ∈ wsG := inGw (inT8 (i := 169) rfl) rfl
theorem q_1959 : (Cond.selects "MarriedStreetsModel" ⟨"MarriedStreetsModel", "number", "(II)I"⟩ ⟨"MarriedStreetsModel", "number", "(II)I"⟩) ∈ wsG := inGw (inT8 (i := 170) rfl) rfl
theorem q_1960 : (Cond.code ⟨"MarriedStreetsModel", "number", "(II)I"⟩ prog_14_method_71_code 3 (Option.some FieldType.int)) ∈ wsG := inGw (inT8 (i := 171) rfl) rfl
theorem q_1961 : (Cond.methodLink "MarriedStreetsModel" 343 ⟨"MarriedStreetsModel", "howNow", "(I)I"⟩) ∈ wsG := inGw (inT8 (i := 172) rfl) rfl
theorem q_1963 : (Cond.instanceMethod ⟨"MarriedStreetsModel", "howNow", "(I)I"⟩) ∈ wsG := inGw (inT8 (i := 174) rfl) rfl
theorem q_1964 : (Cond.code ⟨"MarriedStreetsModel", "howNow", "(I)I"⟩ prog_14_method_68_code 2 (Option.some FieldType.int)) ∈ wsG := inGw (inT8 (i := 175) rfl) rfl
theorem q_1965 : (Cond.methodLink "MarriedStreetsModel" 349 ⟨"MarriedStreetsModel", "numberBy", "(II)I"⟩) ∈ wsG := inGw (inT8 (i := 176) rfl) rfl
theorem q_1966 : (Cond.static ⟨"MarriedStreetsModel", "numberBy", "(II)I"⟩) ∈ wsG := inGw (inT8 (i := 177) rfl) rfl
theorem q_1967 : (Cond.code ⟨"MarriedStreetsModel", "numberBy", "(II)I"⟩ prog_14_method_70_code 2 (Option.some FieldType.int)) ∈ wsG := inGw (inT8 (i := 178) rfl) rfl
theorem q_1968 : (Cond.methodLink "MarriedStreetsLaw" 155 ⟨"MarriedStreetsModel", "letter", "(II)I"⟩) ∈ wsG := inGw (inT8 (i := 179) rfl) rfl
theorem q_1969 : (Cond.instanceMethod ⟨"MarriedStreetsModel", "letter", "(II)I"⟩) ∈ wsG := inGw (inT8 (i := 180) rfl) rfl
theorem q_1970 : (Cond.selects "MarriedStreetsModel" ⟨"MarriedStreetsModel", "letter", "(II)I"⟩ ⟨"MarriedStreetsModel", "letter", "(II)I"⟩) ∈ wsG := inGw (inT8 (i := 181) rfl) rfl
theorem q_1971 : (Cond.code ⟨"MarriedStreetsModel", "letter", "(II)I"⟩ prog_14_method_72_code 3 (Option.some FieldType.int)) ∈ wsG := inGw (inT8 (i := 182) rfl) rfl
theorem q_1972 : (Cond.methodLink "MarriedStreetsModel" 352 ⟨"MarriedStreetsModel", "letterTo", "(II)I"⟩) ∈ wsG := inGw (inT8 (i := 183) rfl) rfl
theorem q_1974 : (Cond.instanceMethod ⟨"MarriedStreetsModel", "letterTo", "(II)I"⟩) ∈ wsG := inGw (inT8 (i := 185) rfl) rfl
theorem q_1975 : (Cond.code ⟨"MarriedStreetsModel", "letterTo", "(II)I"⟩ prog_14_method_69_code 5 (Option.some FieldType.int)) ∈ wsG := inGw (inT8 (i := 186) rfl) rfl
theorem q_1976 : (Cond.methodLink "MarriedStreetsModel" 346 ⟨"MarriedStreetsModel", "houseOf", "(III)I"⟩) ∈ wsG := inGw (inT8 (i := 187) rfl) rfl
theorem q_1978 : (Cond.instanceMethod ⟨"MarriedStreetsModel", "houseOf", "(III)I"⟩) ∈ wsG := inGw (inT8 (i := 189) rfl) rfl
theorem q_1979 : (Cond.code ⟨"MarriedStreetsModel", "houseOf", "(III)I"⟩ prog_14_method_67_code 5 (Option.some FieldType.int)) ∈ wsG := inGw (inT8 (i := 190) rfl) rfl
theorem q_1980 : (Cond.methodLink "MarriedStreetsLaw" 158 ⟨"MarriedStreetsModel", "last", "(I)I"⟩) ∈ wsG := inGw (inT8 (i := 191) rfl) rfl
theorem q_1981 : (Cond.instanceMethod ⟨"MarriedStreetsModel", "last", "(I)I"⟩) ∈ wsG := inGw (inT8 (i := 192) rfl) rfl
theorem q_1982 : (Cond.selects "MarriedStreetsModel" ⟨"MarriedStreetsModel", "last", "(I)I"⟩ ⟨"MarriedStreetsModel", "last", "(I)I"⟩) ∈ wsG := inGw (inT8 (i := 193) rfl) rfl
theorem q_1983 : (Cond.code ⟨"MarriedStreetsModel", "last", "(I)I"⟩ prog_14_method_74_code 2 (Option.some FieldType.int)) ∈ wsG := inGw (inT8 (i := 194) rfl) rfl
theorem q_1984 : (Cond.methodLink "MarriedStreetsModel" 355 ⟨"MarriedStreetsModel", "lastOf", "(I)I"⟩) ∈ wsG := inGw (inT8 (i := 195) rfl) rfl
theorem q_1986 : (Cond.instanceMethod ⟨"MarriedStreetsModel", "lastOf", "(I)I"⟩) ∈ wsG := inGw (inT8 (i := 197) rfl) rfl
theorem q_1987 : (Cond.code ⟨"MarriedStreetsModel", "lastOf", "(I)I"⟩ prog_14_method_73_code 4 (Option.some FieldType.int)) ∈ wsG := inGw (inT8 (i := 198) rfl) rfl
theorem q_1988 : (Cond.methodLink "MarriedStreetsLaw" 161 ⟨"MarriedStreetsModel", "missing", "(I)I"⟩) ∈ wsG := inGw (inT8 (i := 199) rfl) rfl
theorem q_1989 : (Cond.instanceMethod ⟨"MarriedStreetsModel", "missing", "(I)I"⟩) ∈ wsG := inGw (inT8 (i := 200) rfl) rfl
theorem q_1990 : (Cond.selects "MarriedStreetsModel" ⟨"MarriedStreetsModel", "missing", "(I)I"⟩ ⟨"MarriedStreetsModel", "missing", "(I)I"⟩) ∈ wsG := inGw (inT8 (i := 201) rfl) rfl
theorem q_1991 : (Cond.code ⟨"MarriedStreetsModel", "missing", "(I)I"⟩ prog_14_method_75_code 4 (Option.some FieldType.int)) ∈ wsG := inGw (inT8 (i := 202) rfl) rfl
theorem q_1992 : (Cond.methodLink "MarriedStreetsLaw" 165 ⟨"MarriedStreetsModel", "stable", "()I"⟩) ∈ wsG := inGw (inT8 (i := 203) rfl) rfl
theorem q_1993 : (Cond.instanceMethod ⟨"MarriedStreetsModel", "stable", "()I"⟩) ∈ wsG := inGw (inT8 (i := 204) rfl) rfl
theorem q_1994 : (Cond.selects "MarriedStreetsModel" ⟨"MarriedStreetsModel", "stable", "()I"⟩ ⟨"MarriedStreetsModel", "stable", "()I"⟩) ∈ wsG := inGw (inT8 (i := 205) rfl) rfl
theorem q_1995 : (Cond.code ⟨"MarriedStreetsModel", "stable", "()I"⟩ prog_14_method_82_code 1 (Option.some FieldType.int)) ∈ wsG := inGw (inT8 (i := 206) rfl) rfl
theorem q_1996 : (Cond.methodLink "MarriedStreetsModel" 384 ⟨"MarriedStreetsModel", "laysMatches", "()V"⟩) ∈ wsG := inGw (inT8 (i := 207) rfl) rfl
theorem q_1998 : (Cond.instanceMethod ⟨"MarriedStreetsModel", "laysMatches", "()V"⟩) ∈ wsG := inGw (inT8 (i := 209) rfl) rfl
theorem q_1999 : (Cond.code ⟨"MarriedStreetsModel", "laysMatches", "()V"⟩ prog_14_method_81_code 2 none) ∈ wsG := inGw (inT8 (i := 210) rfl) rfl
theorem q_2000 : (Cond.methodLink "MarriedStreetsModel" 381 ⟨"MarriedStreetsModel", "matches", "(II)V"⟩) ∈ wsG := inGw (inT8 (i := 211) rfl) rfl
theorem q_2002 : (Cond.instanceMethod ⟨"MarriedStreetsModel", "matches", "(II)V"⟩) ∈ wsG := inGw (inT8 (i := 213) rfl) rfl
theorem q_2003 : (Cond.code ⟨"MarriedStreetsModel", "matches", "(II)V"⟩ prog_14_method_80_code 5 none) ∈ wsG := inGw (inT8 (i := 214) rfl) rfl
theorem q_2004 : (Cond.methodLink "MarriedStreetsModel" 358 ⟨"MarriedStreetsModel", "heat", "([II)I"⟩) ∈ wsG := inGw (inT8 (i := 215) rfl) rfl
theorem q_2006 : (Cond.instanceMethod ⟨"MarriedStreetsModel", "heat", "([II)I"⟩) ∈ wsG := inGw (inT8 (i := 217) rfl) rfl
theorem q_2007 : (Cond.code ⟨"MarriedStreetsModel", "heat", "([II)I"⟩ prog_14_method_77_code 3 (Option.some FieldType.int)) ∈ wsG := inGw (inT8 (i := 218) rfl) rfl
theorem q_2008 : (Cond.methodLink "MarriedStreetsModel" 371 ⟨"MarriedStreetsModel", "isStable", "()Z"⟩) ∈ wsG := inGw (inT8 (i := 219) rfl) rfl
theorem q_2010 : (Cond.instanceMethod ⟨"MarriedStreetsModel", "isStable", "()Z"⟩) ∈ wsG := inGw (inT8 (i := 221) rfl) rfl
theorem q_2011 : (Cond.code ⟨"MarriedStreetsModel", "isStable", "()Z"⟩ prog_14_method_79_code 3 (Option.some FieldType.boolean)) ∈ wsG := inGw (inT8 (i := 222) rfl) rfl
theorem q_2012 : (Cond.methodLink "MarriedStreetsModel" 361 ⟨"MarriedStreetsModel", "isFree", "(I)Z"⟩) ∈ wsG := inGw (inT8 (i := 223) rfl) rfl
theorem q_2014 : (Cond.instanceMethod ⟨"MarriedStreetsModel", "isFree", "(I)Z"⟩) ∈ wsG := inGw (inT8 (i := 225) rfl) rfl
theorem q_2015 : (Cond.code ⟨"MarriedStreetsModel", "isFree", "(I)Z"⟩ prog_14_method_76_code 2 (Option.some FieldType.boolean)) ∈ wsG := inGw (inT8 (i := 226) rfl) rfl
theorem q_2016 : (Cond.methodLink "MarriedStreetsModel" 364 ⟨"MarriedStreetsModel", "isTempted", "([III)Z"⟩) ∈ wsG := inGw (inT8 (i := 227) rfl) rfl
theorem q_2018 : (Cond.instanceMethod ⟨"MarriedStreetsModel", "isTempted", "([III)Z"⟩) ∈ wsG := inGw (inT8 (i := 229) rfl) rfl
theorem q_2019 : (Cond.code ⟨"MarriedStreetsModel", "isTempted", "([III)Z"⟩ prog_14_method_78_code 4 (Option.some FieldType.boolean)) ∈ wsG := inGw (inT8 (i := 230) rfl) rfl
theorem q_2020 : (Cond.methodLink "MarriedStreetsModel" 377 ⟨"MarriedStreetsModel", "has", "(II)Z"⟩) ∈ wsG := inGw (inT8 (i := 231) rfl) rfl
theorem q_2021 : (Cond.static ⟨"MarriedStreetsModel", "has", "(II)Z"⟩) ∈ wsG := inGw (inT8 (i := 232) rfl) rfl
theorem q_2022 : (Cond.code ⟨"MarriedStreetsModel", "has", "(II)Z"⟩ prog_14_method_9_code 2 (Option.some FieldType.boolean)) ∈ wsG := inGw (inT8 (i := 233) rfl) rfl
theorem q_2023 : (Cond.methodLink "MarriedStreetsLaw" 168 ⟨"MarriedStreetsModel", "stableFor", "(I)I"⟩) ∈ wsG := inGw (inT8 (i := 234) rfl) rfl
theorem q_2024 : (Cond.instanceMethod ⟨"MarriedStreetsModel", "stableFor", "(I)I"⟩) ∈ wsG := inGw (inT8 (i := 235) rfl) rfl
theorem q_2025 : (Cond.selects "MarriedStreetsModel" ⟨"MarriedStreetsModel", "stableFor", "(I)I"⟩ ⟨"MarriedStreetsModel", "stableFor", "(I)I"⟩) ∈ wsG := inGw (inT8 (i := 236) rfl) rfl
theorem q_2026 : (Cond.code ⟨"MarriedStreetsModel", "stableFor", "(I)I"⟩ prog_14_method_83_code 2 (Option.some FieldType.int)) ∈ wsG := inGw (inT8 (i := 237) rfl) rfl
theorem q_2027 : (Cond.methodLink "MarriedStreetsLaw" 172 ⟨"MarriedStreetsModel", "best", "()I"⟩) ∈ wsG := inGw (inT8 (i := 238) rfl) rfl
theorem q_2028 : (Cond.instanceMethod ⟨"MarriedStreetsModel", "best", "()I"⟩) ∈ wsG := inGw (inT8 (i := 239) rfl) rfl
theorem q_2029 : (Cond.selects "MarriedStreetsModel" ⟨"MarriedStreetsModel", "best", "()I"⟩ ⟨"MarriedStreetsModel", "best", "()I"⟩) ∈ wsG := inGw (inT9 (i := 0) rfl) rfl
theorem q_2030 : (Cond.code ⟨"MarriedStreetsModel", "best", "()I"⟩ prog_14_method_84_code 1 (Option.some FieldType.int)) ∈ wsG := inGw (inT9 (i := 1) rfl) rfl
theorem q_2031 : (Cond.methodLink "MarriedStreetsLaw" 175 ⟨"MarriedStreetsModel", "bestFor", "(I)I"⟩) ∈ wsG := inGw (inT9 (i := 2) rfl) rfl
theorem q_2032 : (Cond.instanceMethod ⟨"MarriedStreetsModel", "bestFor", "(I)I"⟩) ∈ wsG := inGw (inT9 (i := 3) rfl) rfl
theorem q_2033 : (Cond.selects "MarriedStreetsModel" ⟨"MarriedStreetsModel", "bestFor", "(I)I"⟩ ⟨"MarriedStreetsModel", "bestFor", "(I)I"⟩) ∈ wsG := inGw (inT9 (i := 4) rfl) rfl
theorem q_2034 : (Cond.code ⟨"MarriedStreetsModel", "bestFor", "(I)I"⟩ prog_14_method_85_code 2 (Option.some FieldType.int)) ∈ wsG := inGw (inT9 (i := 5) rfl) rfl
theorem q_2035 : (Cond.methodLink "MarriedStreetsLaw" 179 ⟨"MarriedStreetsModel", "tempted", "()I"⟩) ∈ wsG := inGw (inT9 (i := 6) rfl) rfl
theorem q_2036 : (Cond.instanceMethod ⟨"MarriedStreetsModel", "tempted", "()I"⟩) ∈ wsG := inGw (inT9 (i := 7) rfl) rfl
theorem q_2037 : (Cond.selects "MarriedStreetsModel" ⟨"MarriedStreetsModel", "tempted", "()I"⟩ ⟨"MarriedStreetsModel", "tempted", "()I"⟩) ∈ wsG := inGw (inT9 (i := 8) rfl) rfl
theorem q_2038 : (Cond.code ⟨"MarriedStreetsModel", "tempted", "()I"⟩ prog_14_method_86_code 3 (Option.some FieldType.int)) ∈ wsG := inGw (inT9 (i := 9) rfl) rfl
theorem q_2039 : (Cond.methodLink "MarriedStreetsLaw" 182 ⟨"MarriedStreetsModel", "way", "(II)I"⟩) ∈ wsG := inGw (inT9 (i := 10) rfl) rfl
theorem q_2040 : (Cond.instanceMethod ⟨"MarriedStreetsModel", "way", "(II)I"⟩) ∈ wsG := inGw (inT9 (i := 11) rfl) rfl
theorem q_2041 : (Cond.selects "MarriedStreetsModel" ⟨"MarriedStreetsModel", "way", "(II)I"⟩ ⟨"MarriedStreetsModel", "way", "(II)I"⟩) ∈ wsG := inGw (inT9 (i := 12) rfl) rfl
theorem q_2042 : (Cond.code ⟨"MarriedStreetsModel", "way", "(II)I"⟩ prog_14_method_88_code 3 (Option.some FieldType.int)) ∈ wsG := inGw (inT9 (i := 13) rfl) rfl
theorem q_2043 : (Cond.methodLink "MarriedStreetsModel" 387 ⟨"MarriedStreetsModel", "isCorner", "(I)Z"⟩) ∈ wsG := inGw (inT9 (i := 14) rfl) rfl
theorem q_2045 : (Cond.instanceMethod ⟨"MarriedStreetsModel", "isCorner", "(I)Z"⟩) ∈ wsG := inGw (inT9 (i := 16) rfl) rfl
theorem q_2046 : (Cond.code ⟨"MarriedStreetsModel", "isCorner", "(I)Z"⟩ prog_14_method_63_code 2 (Option.some FieldType.boolean)) ∈ wsG := inGw (inT9 (i := 17) rfl) rfl
theorem q_2047 : (Cond.methodLink "MarriedStreetsModel" 390 ⟨"MarriedStreetsModel", "laysWays", "(I)V"⟩) ∈ wsG := inGw (inT9 (i := 18) rfl) rfl
theorem q_2049 : (Cond.instanceMethod ⟨"MarriedStreetsModel", "laysWays", "(I)V"⟩) ∈ wsG := inGw (inT9 (i := 20) rfl) rfl
theorem q_2050 : (Cond.code ⟨"MarriedStreetsModel", "laysWays", "(I)V"⟩ prog_14_method_87_code 6 none) ∈ wsG := inGw (inT9 (i := 21) rfl) rfl
theorem q_2051 : (Cond.methodLink "MarriedStreetsLaw" 188 ⟨"MarriedStreetsModel", "reach", "(I)I"⟩) ∈ wsG := inGw (inT9 (i := 22) rfl) rfl
theorem q_2052 : (Cond.instanceMethod ⟨"MarriedStreetsModel", "reach", "(I)I"⟩) ∈ wsG := inGw (inT9 (i := 23) rfl) rfl
theorem q_2053 : (Cond.selects "MarriedStreetsModel" ⟨"MarriedStreetsModel", "reach", "(I)I"⟩ ⟨"MarriedStreetsModel", "reach", "(I)I"⟩) ∈ wsG := inGw (inT9 (i := 24) rfl) rfl
theorem q_2054 : (Cond.code ⟨"MarriedStreetsModel", "reach", "(I)I"⟩ prog_14_method_89_code 4 (Option.some FieldType.int)) ∈ wsG := inGw (inT9 (i := 25) rfl) rfl
theorem q_2055 : (Cond.methodLink "MarriedStreetsLaw" 185 ⟨"MarriedStreetsModel", "round", "(I)I"⟩) ∈ wsG := inGw (inT9 (i := 26) rfl) rfl
theorem q_2056 : (Cond.instanceMethod ⟨"MarriedStreetsModel", "round", "(I)I"⟩) ∈ wsG := inGw (inT9 (i := 27) rfl) rfl
theorem q_2057 : (Cond.selects "MarriedStreetsModel" ⟨"MarriedStreetsModel", "round", "(I)I"⟩ ⟨"MarriedStreetsModel", "round", "(I)I"⟩) ∈ wsG := inGw (inT9 (i := 28) rfl) rfl
theorem q_2058 : (Cond.code ⟨"MarriedStreetsModel", "round", "(I)I"⟩ prog_14_method_90_code 7 (Option.some FieldType.int)) ∈ wsG := inGw (inT9 (i := 29) rfl) rfl
theorem q_2059 : (Cond.methodLink "MarriedStreetsModel" 393 ⟨"MarriedStreetsModel", "walksOn", "(III)V"⟩) ∈ wsG := inGw (inT9 (i := 30) rfl) rfl
theorem q_2061 : (Cond.instanceMethod ⟨"MarriedStreetsModel", "walksOn", "(III)V"⟩) ∈ wsG := inGw (inT9 (i := 32) rfl) rfl
theorem q_2062 : (Cond.code ⟨"MarriedStreetsModel", "walksOn", "(III)V"⟩ prog_14_method_91_code 10 none) ∈ wsG := inGw (inT9 (i := 33) rfl) rfl
theorem q_2063 : (Cond.methodLink "MarriedStreetsLaw" 191 ⟨"MarriedStreetsModel", "bridges", "(I)I"⟩) ∈ wsG := inGw (inT9 (i := 34) rfl) rfl
theorem q_2064 : (Cond.instanceMethod ⟨"MarriedStreetsModel", "bridges", "(I)I"⟩) ∈ wsG := inGw (inT9 (i := 35) rfl) rfl
theorem q_2065 : (Cond.selects "MarriedStreetsModel" ⟨"MarriedStreetsModel", "bridges", "(I)I"⟩ ⟨"MarriedStreetsModel", "bridges", "(I)I"⟩) ∈ wsG := inGw (inT9 (i := 36) rfl) rfl
theorem q_2066 : (Cond.code ⟨"MarriedStreetsModel", "bridges", "(I)I"⟩ prog_14_method_92_code 5 (Option.some FieldType.int)) ∈ wsG := inGw (inT9 (i := 37) rfl) rfl
theorem q_2067 : (Cond.methodLink "MarriedStreetsLaw" 194 ⟨"MarriedStreetsModel", "fair", "(I)I"⟩) ∈ wsG := inGw (inT9 (i := 38) rfl) rfl
theorem q_2068 : (Cond.instanceMethod ⟨"MarriedStreetsModel", "fair", "(I)I"⟩) ∈ wsG := inGw (inT9 (i := 39) rfl) rfl
theorem q_2069 : (Cond.selects "MarriedStreetsModel" ⟨"MarriedStreetsModel", "fair", "(I)I"⟩ ⟨"MarriedStreetsModel", "fair", "(I)I"⟩) ∈ wsG := inGw (inT9 (i := 40) rfl) rfl
theorem q_2070 : (Cond.code ⟨"MarriedStreetsModel", "fair", "(I)I"⟩ prog_14_method_94_code 6 (Option.some FieldType.int)) ∈ wsG := inGw (inT9 (i := 41) rfl) rfl
theorem q_2071 : (Cond.methodLink "MarriedStreetsModel" 397 ⟨"MarriedStreetsModel", "worthOf", "(II)I"⟩) ∈ wsG := inGw (inT9 (i := 42) rfl) rfl
theorem q_2073 : (Cond.instanceMethod ⟨"MarriedStreetsModel", "worthOf", "(II)I"⟩) ∈ wsG := inGw (inT9 (i := 44) rfl) rfl
theorem q_2074 : (Cond.code ⟨"MarriedStreetsModel", "worthOf", "(II)I"⟩ prog_14_method_93_code 5 (Option.some FieldType.int)) ∈ wsG := inGw (inT9 (i := 45) rfl) rfl
theorem q_2075 : (Cond.methodLink "MarriedStreetsLaw" 198 ⟨"MarriedStreetsModel", "even", "()I"⟩) ∈ wsG := inGw (inT9 (i := 46) rfl) rfl
theorem q_2076 : (Cond.instanceMethod ⟨"MarriedStreetsModel", "even", "()I"⟩) ∈ wsG := inGw (inT9 (i := 47) rfl) rfl
theorem q_2077 : (Cond.selects "MarriedStreetsModel" ⟨"MarriedStreetsModel", "even", "()I"⟩ ⟨"MarriedStreetsModel", "even", "()I"⟩) ∈ wsG := inGw (inT9 (i := 48) rfl) rfl
theorem q_2078 : (Cond.code ⟨"MarriedStreetsModel", "even", "()I"⟩ prog_14_method_95_code 4 (Option.some FieldType.int)) ∈ wsG := inGw (inT9 (i := 49) rfl) rfl
theorem q_2079 : (Cond.methodLink "MarriedStreetsLaw" 201 ⟨"MarriedStreetsModel", "mates", "(II)I"⟩) ∈ wsG := inGw (inT9 (i := 50) rfl) rfl
theorem q_2080 : (Cond.instanceMethod ⟨"MarriedStreetsModel", "mates", "(II)I"⟩) ∈ wsG := inGw (inT9 (i := 51) rfl) rfl
theorem q_2081 : (Cond.selects "MarriedStreetsModel" ⟨"MarriedStreetsModel", "mates", "(II)I"⟩ ⟨"MarriedStreetsModel", "mates", "(II)I"⟩) ∈ wsG := inGw (inT9 (i := 52) rfl) rfl
theorem q_2082 : (Cond.code ⟨"MarriedStreetsModel", "mates", "(II)I"⟩ prog_14_method_99_code 3 (Option.some FieldType.int)) ∈ wsG := inGw (inT9 (i := 53) rfl) rfl
theorem q_2083 : (Cond.methodLink "MarriedStreetsModel" 403 ⟨"MarriedStreetsModel", "matesOf", "(II)I"⟩) ∈ wsG := inGw (inT9 (i := 54) rfl) rfl
theorem q_2085 : (Cond.instanceMethod ⟨"MarriedStreetsModel", "matesOf", "(II)I"⟩) ∈ wsG := inGw (inT9 (i := 56) rfl) rfl
theorem q_2086 : (Cond.code ⟨"MarriedStreetsModel", "matesOf", "(II)I"⟩ prog_14_method_97_code 5 (Option.some FieldType.int)) ∈ wsG := inGw (inT9 (i := 57) rfl) rfl
theorem q_2087 : (Cond.methodLink "MarriedStreetsModel" 400 ⟨"MarriedStreetsModel", "isPosted", "(II)Z"⟩) ∈ wsG := inGw (inT9 (i := 58) rfl) rfl
theorem q_2089 : (Cond.instanceMethod ⟨"MarriedStreetsModel", "isPosted", "(II)Z"⟩) ∈ wsG := inGw (inT9 (i := 60) rfl) rfl
theorem q_2090 : (Cond.code ⟨"MarriedStreetsModel", "isPosted", "(II)Z"⟩ prog_14_method_96_code 4 (Option.some FieldType.boolean)) ∈ wsG := inGw (inT9 (i := 61) rfl) rfl
theorem q_2091 : (Cond.methodLink "MarriedStreetsModel" 406 ⟨"MarriedStreetsModel", "ones", "(I)I"⟩) ∈ wsG := inGw (inT9 (i := 62) rfl) rfl
theorem q_2092 : (Cond.static ⟨"MarriedStreetsModel", "ones", "(I)I"⟩) ∈ wsG := inGw (inT9 (i := 63) rfl) rfl
theorem q_2093 : (Cond.code ⟨"MarriedStreetsModel", "ones", "(I)I"⟩ prog_14_method_98_code 3 (Option.some FieldType.int)) ∈ wsG := inGw (inT9 (i := 64) rfl) rfl
theorem q_2094 : (Cond.methodLink "MarriedStreetsLaw" 204 ⟨"MarriedStreetsModel", "look", "(II)I"⟩) ∈ wsG := inGw (inT9 (i := 65) rfl) rfl
theorem q_2095 : (Cond.instanceMethod ⟨"MarriedStreetsModel", "look", "(II)I"⟩) ∈ wsG := inGw (inT9 (i := 66) rfl) rfl
theorem q_2096 : (Cond.selects "MarriedStreetsModel" ⟨"MarriedStreetsModel", "look", "(II)I"⟩ ⟨"MarriedStreetsModel", "look", "(II)I"⟩) ∈ wsG := inGw (inT9 (i := 67) rfl) rfl
theorem q_2097 : (Cond.code ⟨"MarriedStreetsModel", "look", "(II)I"⟩ prog_14_method_100_code 9 (Option.some FieldType.int)) ∈ wsG := inGw (inT9 (i := 68) rfl) rfl
theorem q_2098 : (Cond.methodLink "MarriedStreetsLaw" 207 ⟨"MarriedStreetsModel", "right", "(I)I"⟩) ∈ wsG := inGw (inT9 (i := 69) rfl) rfl
theorem q_2099 : (Cond.instanceMethod ⟨"MarriedStreetsModel", "right", "(I)I"⟩) ∈ wsG := inGw (inT9 (i := 70) rfl) rfl
theorem q_2100 : (Cond.selects "MarriedStreetsModel" ⟨"MarriedStreetsModel", "right", "(I)I"⟩ ⟨"MarriedStreetsModel", "right", "(I)I"⟩) ∈ wsG := inGw (inT9 (i := 71) rfl) rfl
theorem q_2101 : (Cond.code ⟨"MarriedStreetsModel", "right", "(I)I"⟩ prog_14_method_101_code 3 (Option.some FieldType.int)) ∈ wsG := inGw (inT9 (i := 72) rfl) rfl
theorem q_2102 : (Cond.methodLink "MarriedStreetsLaw" 211 ⟨"MarriedStreetsModel", "lane", "()I"⟩) ∈ wsG := inGw (inT9 (i := 73) rfl) rfl
theorem q_2103 : (Cond.instanceMethod ⟨"MarriedStreetsModel", "lane", "()I"⟩) ∈ wsG := inGw (inT9 (i := 74) rfl) rfl
theorem q_2104 : (Cond.selects "MarriedStreetsModel" ⟨"MarriedStreetsModel", "lane", "()I"⟩ ⟨"MarriedStreetsModel", "lane", "()I"⟩) ∈ wsG := inGw (inT9 (i := 75) rfl) rfl
theorem q_2105 : (Cond.code ⟨"MarriedStreetsModel", "lane", "()I"⟩ prog_14_method_104_code 1 (Option.some FieldType.int)) ∈ wsG := inGw (inT9 (i := 76) rfl) rfl
theorem q_2106 : (Cond.methodLink "MarriedStreetsModel" 412 ⟨"MarriedStreetsModel", "laneIn", "()I"⟩) ∈ wsG := inGw (inT9 (i := 77) rfl) rfl
theorem q_2108 : (Cond.instanceMethod ⟨"MarriedStreetsModel", "laneIn", "()I"⟩) ∈ wsG := inGw (inT9 (i := 79) rfl) rfl
theorem q_2109 : (Cond.code ⟨"MarriedStreetsModel", "laneIn", "()I"⟩ prog_14_method_103_code 2 (Option.some FieldType.int)) ∈ wsG := inGw (inT9 (i := 80) rfl) rfl
theorem q_2110 : (Cond.methodLink "MarriedStreetsModel" 409 ⟨"MarriedStreetsModel", "laneX", "(I)I"⟩) ∈ wsG := inGw (inT9 (i := 81) rfl) rfl
theorem q_2112 : (Cond.instanceMethod ⟨"MarriedStreetsModel", "laneX", "(I)I"⟩) ∈ wsG := inGw (inT9 (i := 83) rfl) rfl
theorem q_2113 : (Cond.code ⟨"MarriedStreetsModel", "laneX", "(I)I"⟩ prog_14_method_102_code 2 (Option.some FieldType.int)) ∈ wsG := inGw (inT9 (i := 84) rfl) rfl
theorem q_2114 : (Cond.methodLink "MarriedStreetsLaw" 215 ⟨"MarriedStreetsModel", "stop", "()I"⟩) ∈ wsG := inGw (inT9 (i := 85) rfl) rfl
theorem q_2115 : (Cond.instanceMethod ⟨"MarriedStreetsModel", "stop", "()I"⟩) ∈ wsG := inGw (inT9 (i := 86) rfl) rfl
theorem q_2116 : (Cond.selects "MarriedStreetsModel" ⟨"MarriedStreetsModel", "stop", "()I"⟩ ⟨"MarriedStreetsModel", "stop", "()I"⟩) ∈ wsG := inGw (inT9 (i := 87) rfl) rfl
theorem q_2117 : (Cond.code ⟨"MarriedStreetsModel", "stop", "()I"⟩ prog_14_method_105_code 7 (Option.some FieldType.int)) ∈ wsG := inGw (inT9 (i := 88) rfl) rfl
theorem q_2118 : (Cond.methodLink "MarriedStreetsLaw" 219 ⟨"MarriedStreetsModel", "suitors", "(IIII)I"⟩) ∈ wsG := inGw (inT9 (i := 89) rfl) rfl
theorem q_2119 : (Cond.instanceMethod ⟨"MarriedStreetsModel", "suitors", "(IIII)I"⟩) ∈ wsG := inGw (inT9 (i := 90) rfl) rfl
theorem q_2120 : (Cond.selects "MarriedStreetsModel" ⟨"MarriedStreetsModel", "suitors", "(IIII)I"⟩ ⟨"MarriedStreetsModel", "suitors", "(IIII)I"⟩) ∈ wsG := inGw (inT9 (i := 91) rfl) rfl
theorem q_2121 : (Cond.code ⟨"MarriedStreetsModel", "suitors", "(IIII)I"⟩ prog_14_method_108_code 9 (Option.some FieldType.int)) ∈ wsG := inGw (inT9 (i := 92) rfl) rfl
theorem q_2122 : (Cond.methodLink "MarriedStreetsModel" 418 ⟨"MarriedStreetsModel", "isBid", "(IIII)Z"⟩) ∈ wsG := inGw (inT9 (i := 93) rfl) rfl
theorem q_2123 : (Cond.static ⟨"MarriedStreetsModel", "isBid", "(IIII)Z"⟩) ∈ wsG := inGw (inT9 (i := 94) rfl) rfl
theorem q_2124 : (Cond.code ⟨"MarriedStreetsModel", "isBid", "(IIII)Z"⟩ prog_14_method_107_code 5 (Option.some FieldType.boolean)) ∈ wsG := inGw (inT9 (i := 95) rfl) rfl
theorem q_2125 : (Cond.methodLink "MarriedStreetsModel" 415 ⟨"MarriedStreetsModel", "getsBy", "(III)I"⟩) ∈ wsG := inGw (inT9 (i := 96) rfl) rfl
theorem q_2126 : (Cond.static ⟨"MarriedStreetsModel", "getsBy", "(III)I"⟩) ∈ wsG := inGw (inT9 (i := 97) rfl) rfl
theorem q_2127 : (Cond.code ⟨"MarriedStreetsModel", "getsBy", "(III)I"⟩ prog_14_method_106_code 3 (Option.some FieldType.int)) ∈ wsG := inGw (inT9 (i := 98) rfl) rfl
theorem q_2128 : (Cond.methodLink "MarriedStreetsLaw" 223 ⟨"MarriedStreetsModel", "gets", "(III)I"⟩) ∈ wsG := inGw (inT9 (i := 99) rfl) rfl
theorem q_2129 : (Cond.instanceMethod ⟨"MarriedStreetsModel", "gets", "(III)I"⟩) ∈ wsG := inGw (inT9 (i := 100) rfl) rfl
theorem q_2130 : (Cond.selects "MarriedStreetsModel" ⟨"MarriedStreetsModel", "gets", "(III)I"⟩ ⟨"MarriedStreetsModel", "gets", "(III)I"⟩) ∈ wsG := inGw (inT9 (i := 101) rfl) rfl
theorem q_2131 : (Cond.code ⟨"MarriedStreetsModel", "gets", "(III)I"⟩ prog_14_method_109_code 4 (Option.some FieldType.int)) ∈ wsG := inGw (inT9 (i := 102) rfl) rfl
theorem q_2132 : (Cond.methodLink "MarriedStreetsLaw" 226 ⟨"MarriedStreetsModel", "ahead", "(II)I"⟩) ∈ wsG := inGw (inT9 (i := 103) rfl) rfl
theorem q_2133 : (Cond.instanceMethod ⟨"MarriedStreetsModel", "ahead", "(II)I"⟩) ∈ wsG := inGw (inT9 (i := 104) rfl) rfl
theorem q_2134 : (Cond.selects "MarriedStreetsModel" ⟨"MarriedStreetsModel", "ahead", "(II)I"⟩ ⟨"MarriedStreetsModel", "ahead", "(II)I"⟩) ∈ wsG := inGw (inT9 (i := 105) rfl) rfl
theorem q_2135 : (Cond.code ⟨"MarriedStreetsModel", "ahead", "(II)I"⟩ prog_14_method_110_code 5 (Option.some FieldType.int)) ∈ wsG := inGw (inT9 (i := 106) rfl) rfl
theorem q_2136 : (Cond.methodLink "MarriedStreetsLaw" 229 ⟨"MarriedStreetsModel", "centuries", "(IIII)I"⟩) ∈ wsG := inGw (inT9 (i := 107) rfl) rfl
theorem q_2137 : (Cond.instanceMethod ⟨"MarriedStreetsModel", "centuries", "(IIII)I"⟩) ∈ wsG := inGw (inT9 (i := 108) rfl) rfl
theorem q_2138 : (Cond.selects "MarriedStreetsModel" ⟨"MarriedStreetsModel", "centuries", "(IIII)I"⟩ ⟨"MarriedStreetsModel", "centuries", "(IIII)I"⟩) ∈ wsG := inGw (inT9 (i := 109) rfl) rfl
theorem q_2139 : (Cond.code ⟨"MarriedStreetsModel", "centuries", "(IIII)I"⟩ prog_14_method_113_code 5 (Option.some FieldType.int)) ∈ wsG := inGw (inT9 (i := 110) rfl) rfl
theorem q_2140 : (Cond.methodLink "MarriedStreetsModel" 432 ⟨"MarriedStreetsModel", "centuriesBy", "(III)V"⟩) ∈ wsG := inGw (inT9 (i := 111) rfl) rfl
theorem q_2142 : (Cond.instanceMethod ⟨"MarriedStreetsModel", "centuriesBy", "(III)V"⟩) ∈ wsG := inGw (inT9 (i := 113) rfl) rfl
theorem q_2143 : (Cond.code ⟨"MarriedStreetsModel", "centuriesBy", "(III)V"⟩ prog_14_method_112_code 5 none) ∈ wsG := inGw (inT9 (i := 114) rfl) rfl
theorem q_2144 : (Cond.methodLink "MarriedStreetsModel" 429 ⟨"MarriedStreetsModel", "draw", "(I)I"⟩) ∈ wsG := inGw (inT9 (i := 115) rfl) rfl
theorem q_2146 : (Cond.instanceMethod ⟨"MarriedStreetsModel", "draw", "(I)I"⟩) ∈ wsG := inGw (inT9 (i := 117) rfl) rfl
theorem q_2147 : (Cond.code ⟨"MarriedStreetsModel", "draw", "(I)I"⟩ prog_14_method_111_code 2 (Option.some FieldType.int)) ∈ wsG := inGw (inT9 (i := 118) rfl) rfl
theorem q_2148 : (Cond.constant "MarriedStreetsModel" 425 1103515245) ∈ wsG := inGw (inT9 (i := 119) rfl) rfl
theorem q_2149 : (Cond.methodLink "MarriedStreetsLaw" 233 ⟨"MarriedStreetsModel", "span", "(IIIIII)I"⟩) ∈ wsG := inGw (inT9 (i := 120) rfl) rfl
theorem q_2150 : (Cond.instanceMethod ⟨"MarriedStreetsModel", "span", "(IIIIII)I"⟩) ∈ wsG := inGw (inT9 (i := 121) rfl) rfl
theorem q_2151 : (Cond.selects "MarriedStreetsModel" ⟨"MarriedStreetsModel", "span", "(IIIIII)I"⟩ ⟨"MarriedStreetsModel", "span", "(IIIIII)I"⟩) ∈ wsG := inGw (inT9 (i := 122) rfl) rfl
theorem q_2152 : (Cond.code ⟨"MarriedStreetsModel", "span", "(IIIIII)I"⟩ prog_14_method_114_code 12 (Option.some FieldType.int)) ∈ wsG := inGw (inT9 (i := 123) rfl) rfl
theorem q_2153 : (Cond.methodLink "MarriedStreetsLaw" 237 ⟨"MarriedStreetsModel", "image", "()I"⟩) ∈ wsG := inGw (inT9 (i := 124) rfl) rfl
theorem q_2154 : (Cond.instanceMethod ⟨"MarriedStreetsModel", "image", "()I"⟩) ∈ wsG := inGw (inT9 (i := 125) rfl) rfl
theorem q_2155 : (Cond.selects "MarriedStreetsModel" ⟨"MarriedStreetsModel", "image", "()I"⟩ ⟨"MarriedStreetsModel", "image", "()I"⟩) ∈ wsG := inGw (inT9 (i := 126) rfl) rfl
theorem q_2156 : (Cond.code ⟨"MarriedStreetsModel", "image", "()I"⟩ prog_14_method_117_code 1 (Option.some FieldType.int)) ∈ wsG := inGw (inT9 (i := 127) rfl) rfl
theorem q_2157 : (Cond.methodLink "MarriedStreetsModel" 442 ⟨"MarriedStreetsModel", "putsAll", "([IZ)V"⟩) ∈ wsG := inGw (inT9 (i := 128) rfl) rfl
theorem q_2159 : (Cond.instanceMethod ⟨"MarriedStreetsModel", "putsAll", "([IZ)V"⟩) ∈ wsG := inGw (inT9 (i := 130) rfl) rfl
theorem q_2160 : (Cond.code ⟨"MarriedStreetsModel", "putsAll", "([IZ)V"⟩ prog_14_method_116_code 5 none) ∈ wsG := inGw (inT9 (i := 131) rfl) rfl
theorem q_2161 : (Cond.methodLink "MarriedStreetsModel" 438 ⟨"MarriedStreetsModel", "puts", "([IIZ)I"⟩) ∈ wsG := inGw (inT9 (i := 132) rfl) rfl
theorem q_2163 : (Cond.instanceMethod ⟨"MarriedStreetsModel", "puts", "([IIZ)I"⟩) ∈ wsG := inGw (inT9 (i := 134) rfl) rfl
theorem q_2164 : (Cond.code ⟨"MarriedStreetsModel", "puts", "([IIZ)I"⟩ prog_14_method_115_code 4 (Option.some FieldType.int)) ∈ wsG := inGw (inT9 (i := 135) rfl) rfl
theorem q_2165 : (Cond.methodLink "MarriedStreetsLaw" 241 ⟨"MarriedStreetsModel", "restore", "()I"⟩) ∈ wsG := inGw (inT9 (i := 136) rfl) rfl
theorem q_2166 : (Cond.instanceMethod ⟨"MarriedStreetsModel", "restore", "()I"⟩) ∈ wsG := inGw (inT9 (i := 137) rfl) rfl
theorem q_2167 : (Cond.selects "MarriedStreetsModel" ⟨"MarriedStreetsModel", "restore", "()I"⟩ ⟨"MarriedStreetsModel", "restore", "()I"⟩) ∈ wsG := inGw (inT9 (i := 138) rfl) rfl
theorem q_2168 : (Cond.code ⟨"MarriedStreetsModel", "restore", "()I"⟩ prog_14_method_118_code 1 (Option.some FieldType.int)) ∈ wsG := inGw (inT9 (i := 139) rfl) rfl
theorem q_2169 : (Cond.methodLink "MarriedStreetsLaw" 245 ⟨"MarriedStreetsModel", "status", "(I)I"⟩) ∈ wsG := inGw (inT9 (i := 140) rfl) rfl
theorem q_2170 : (Cond.instanceMethod ⟨"MarriedStreetsModel", "status", "(I)I"⟩) ∈ wsG := inGw (inT9 (i := 141) rfl) rfl
theorem q_2171 : (Cond.selects "MarriedStreetsModel" ⟨"MarriedStreetsModel", "status", "(I)I"⟩ ⟨"MarriedStreetsModel", "status", "(I)I"⟩) ∈ wsG := inGw (inT9 (i := 142) rfl) rfl
theorem q_2172 : (Cond.code ⟨"MarriedStreetsModel", "status", "(I)I"⟩ prog_14_method_119_code 2 (Option.some FieldType.int)) ∈ wsG := inGw (inT9 (i := 143) rfl) rfl
theorem q_2173 : (Cond.methodLink "MarriedStreetsLaw" 249 ⟨"MarriedStreetsModel", "count", "(I)I"⟩) ∈ wsG := inGw (inT9 (i := 144) rfl) rfl
theorem q_2174 : (Cond.instanceMethod ⟨"MarriedStreetsModel", "count", "(I)I"⟩) ∈ wsG := inGw (inT9 (i := 145) rfl) rfl
theorem q_2175 : (Cond.selects "MarriedStreetsModel" ⟨"MarriedStreetsModel", "count", "(I)I"⟩ ⟨"MarriedStreetsModel", "count", "(I)I"⟩) ∈ wsG := inGw (inT9 (i := 146) rfl) rfl
theorem q_2176 : (Cond.code ⟨"MarriedStreetsModel", "count", "(I)I"⟩ prog_14_method_120_code 2 (Option.some FieldType.int)) ∈ wsG := inGw (inT9 (i := 147) rfl) rfl
theorem q_2177 : (Cond.arrayClass FieldType.long) ∈ wsG := inGw (inT9 (i := 148) rfl) rfl
theorem q_2196 : (Cond.fieldLink "java/lang/String" 9 "java/lang/String" "value" "[B") ∈ wsG := inGw (inT9 (i := 167) rfl) rfl
theorem q_2197 : (Cond.fieldLink "java/lang/String" 15 "java/lang/String" "coder" "B") ∈ wsG := inGw (inT9 (i := 168) rfl) rfl
theorem inG_l (ws : List Cond) (h : ∀ w ∈ ws, w ∈ wsG) : ∀ w ∈ ws, w ∈ wsG := h
theorem clw_0 : ∀ w ∈ u_ws RX0 TX0 19, w ∈ wsG := List.forall_mem_cons.mpr ⟨inGw (inT1 (i := 104) rfl) rfl, List.forall_mem_cons.mpr ⟨inGw (inT1 (i := 106) rfl) rfl, List.forall_mem_cons.mpr ⟨inGw (inT1 (i := 108) rfl) rfl, List.forall_mem_cons.mpr ⟨inGw (inT1 (i := 110) rfl) rfl, List.forall_mem_cons.mpr ⟨inGw (inT1 (i := 112) rfl) rfl, List.forall_mem_cons.mpr ⟨inGw (inT1 (i := 114) rfl) rfl, List.forall_mem_cons.mpr ⟨inGw (inT1 (i := 116) rfl) rfl, List.forall_mem_cons.mpr ⟨inGw (inT1 (i := 118) rfl) rfl, List.forall_mem_cons.mpr ⟨inGw (inT1 (i := 120) rfl) rfl, List.forall_mem_cons.mpr ⟨inGw (inT1 (i := 122) rfl) rfl, List.forall_mem_cons.mpr ⟨inGw (inT1 (i := 124) rfl) rfl, List.forall_mem_cons.mpr ⟨inGw (inT1 (i := 126) rfl) rfl, List.forall_mem_cons.mpr ⟨inGw (inT1 (i := 128) rfl) rfl, List.forall_mem_cons.mpr ⟨inGw (inT1 (i := 130) rfl) rfl, List.forall_mem_cons.mpr ⟨inGw (inT1 (i := 132) rfl) rfl, List.forall_mem_cons.mpr ⟨inGw (inT1 (i := 134) rfl) rfl, List.forall_mem_cons.mpr ⟨inGw (inT1 (i := 136) rfl) rfl, List.forall_mem_cons.mpr ⟨inGw (inT1 (i := 138) rfl) rfl, List.forall_mem_cons.mpr ⟨inGw (inT1 (i := 140) rfl) rfl, fun _ h => nomatch h⟩⟩⟩⟩⟩⟩⟩⟩⟩⟩⟩⟩⟩⟩⟩⟩⟩⟩⟩
theorem cl_0 : ClK 0 RX0 TX0 19 tyX0 := ⟨rfl, clw_0, rfl, tyX0_ok, nmX0, by decide +kernel⟩
theorem clw_1 : ∀ w ∈ u_ws RX1 TX1 5, w ∈ wsG := List.forall_mem_cons.mpr ⟨inGw (inT2 (i := 53) rfl) rfl, List.forall_mem_cons.mpr ⟨inGw (inT2 (i := 55) rfl) rfl, List.forall_mem_cons.mpr ⟨inGw (inT2 (i := 57) rfl) rfl, List.forall_mem_cons.mpr ⟨inGw (inT2 (i := 59) rfl) rfl, List.forall_mem_cons.mpr ⟨inGw (inT2 (i := 61) rfl) rfl, fun _ h => nomatch h⟩⟩⟩⟩⟩
theorem cl_1 : ClK 1 RX1 TX1 5 tyX1 := ⟨rfl, clw_1, rfl, tyX1_ok, nmX1, by decide +kernel⟩
theorem clw_2 : ∀ w ∈ u_ws RX2 TX2 3, w ∈ wsG := List.forall_mem_cons.mpr ⟨inGw (inT1 (i := 153) rfl) rfl, List.forall_mem_cons.mpr ⟨inGw (inT1 (i := 155) rfl) rfl, List.forall_mem_cons.mpr ⟨inGw (inT1 (i := 157) rfl) rfl, fun _ h => nomatch h⟩⟩⟩
theorem cl_2 : ClK 2 RX2 TX2 3 tyX2 := ⟨rfl, clw_2, rfl, tyX2_ok, nmX2, by decide +kernel⟩
theorem clw_3 : ∀ w ∈ u_ws RX3 TX3 4, w ∈ wsG := List.forall_mem_cons.mpr ⟨inGw (inT1 (i := 230) rfl) rfl, List.forall_mem_cons.mpr ⟨inGw (inT1 (i := 232) rfl) rfl, List.forall_mem_cons.mpr ⟨inGw (inT1 (i := 234) rfl) rfl, List.forall_mem_cons.mpr ⟨inGw (inT1 (i := 236) rfl) rfl, fun _ h => nomatch h⟩⟩⟩⟩
theorem cl_3 : ClK 3 RX3 TX3 4 tyX3 := ⟨rfl, clw_3, rfl, tyX3_ok, nmX3, by decide +kernel⟩
theorem clw_4 : ∀ w ∈ u_ws RX4 TX4 1, w ∈ wsG := List.forall_mem_cons.mpr ⟨inGw (inT1 (i := 215) rfl) rfl, fun _ h => nomatch h⟩
theorem cl_4 : ClK 4 RX4 TX4 1 tyX4 := ⟨rfl, clw_4, rfl, tyX4_ok, nmX4, by decide +kernel⟩
theorem clw_5 : ∀ w ∈ u_ws RX5 TX5 3, w ∈ wsG := List.forall_mem_cons.mpr ⟨inGw (inT1 (i := 170) rfl) rfl, List.forall_mem_cons.mpr ⟨inGw (inT1 (i := 172) rfl) rfl, List.forall_mem_cons.mpr ⟨inGw (inT1 (i := 174) rfl) rfl, fun _ h => nomatch h⟩⟩⟩
theorem cl_5 : ClK 5 RX5 TX5 3 tyX5 := ⟨rfl, clw_5, rfl, tyX5_ok, nmX5, by decide +kernel⟩
theorem clw_6 : ∀ w ∈ u_ws RX6 TX6 6, w ∈ wsG := List.forall_mem_cons.mpr ⟨inGw (inT2 (i := 13) rfl) rfl, List.forall_mem_cons.mpr ⟨inGw (inT2 (i := 15) rfl) rfl, List.forall_mem_cons.mpr ⟨inGw (inT2 (i := 17) rfl) rfl, List.forall_mem_cons.mpr ⟨inGw (inT2 (i := 19) rfl) rfl, List.forall_mem_cons.mpr ⟨inGw (inT2 (i := 21) rfl) rfl, List.forall_mem_cons.mpr ⟨inGw (inT2 (i := 23) rfl) rfl, fun _ h => nomatch h⟩⟩⟩⟩⟩⟩
theorem cl_6 : ClK 6 RX6 TX6 6 tyX6 := ⟨rfl, clw_6, rfl, tyX6_ok, nmX6, by decide +kernel⟩
theorem clw_7 : ∀ w ∈ u_ws RX7 TX7 7, w ∈ wsG := List.forall_mem_cons.mpr ⟨inGw (inT1 (i := 193) rfl) rfl, List.forall_mem_cons.mpr ⟨inGw (inT1 (i := 195) rfl) rfl, List.forall_mem_cons.mpr ⟨inGw (inT1 (i := 197) rfl) rfl, List.forall_mem_cons.mpr ⟨inGw (inT1 (i := 199) rfl) rfl, List.forall_mem_cons.mpr ⟨inGw (inT1 (i := 201) rfl) rfl, List.forall_mem_cons.mpr ⟨inGw (inT1 (i := 203) rfl) rfl, List.forall_mem_cons.mpr ⟨inGw (inT1 (i := 205) rfl) rfl, fun _ h => nomatch h⟩⟩⟩⟩⟩⟩⟩
theorem cl_7 : ClK 7 RX7 TX7 7 tyX7 := ⟨rfl, clw_7, rfl, tyX7_ok, nmX7, by decide +kernel⟩
theorem clw_8 : ∀ w ∈ u_ws RX8 TX8 2, w ∈ wsG := List.forall_mem_cons.mpr ⟨inGw (inT2 (i := 34) rfl) rfl, List.forall_mem_cons.mpr ⟨inGw (inT2 (i := 36) rfl) rfl, fun _ h => nomatch h⟩⟩
theorem cl_8 : ClK 8 RX8 TX8 2 tyX8 := ⟨rfl, clw_8, rfl, tyX8_ok, nmX8, by decide +kernel⟩
theorem clw_9 : ∀ w ∈ u_ws RX10 TX10 6, w ∈ wsG := List.forall_mem_cons.mpr ⟨inGw (inT1 (i := 47) rfl) rfl, List.forall_mem_cons.mpr ⟨inGw (inT1 (i := 49) rfl) rfl, List.forall_mem_cons.mpr ⟨inGw (inT1 (i := 51) rfl) rfl, List.forall_mem_cons.mpr ⟨inGw (inT1 (i := 53) rfl) rfl, List.forall_mem_cons.mpr ⟨inGw (inT1 (i := 55) rfl) rfl, List.forall_mem_cons.mpr ⟨inGw (inT1 (i := 57) rfl) rfl, fun _ h => nomatch h⟩⟩⟩⟩⟩⟩
theorem cl_9 : ClK 9 RX10 TX10 6 tyX10 := ⟨rfl, clw_9, rfl, tyX10_ok, nmX10, by decide +kernel⟩
theorem clw_10 : ∀ w ∈ u_ws RX11 TX11 20, w ∈ wsG := List.forall_mem_cons.mpr ⟨inGw (inT2 (i := 99) rfl) rfl, List.forall_mem_cons.mpr ⟨inGw (inT2 (i := 101) rfl) rfl, List.forall_mem_cons.mpr ⟨inGw (inT2 (i := 103) rfl) rfl, List.forall_mem_cons.mpr ⟨inGw (inT2 (i := 105) rfl) rfl, List.forall_mem_cons.mpr ⟨inGw (inT2 (i := 107) rfl) rfl, List.forall_mem_cons.mpr ⟨inGw (inT2 (i := 109) rfl) rfl, List.forall_mem_cons.mpr ⟨inGw (inT2 (i := 111) rfl) rfl, List.forall_mem_cons.mpr ⟨inGw (inT2 (i := 113) rfl) rfl, List.forall_mem_cons.mpr ⟨inGw (inT2 (i := 115) rfl) rfl, List.forall_mem_cons.mpr ⟨inGw (inT2 (i := 117) rfl) rfl, List.forall_mem_cons.mpr ⟨inGw (inT2 (i := 119) rfl) rfl, List.forall_mem_cons.mpr ⟨inGw (inT2 (i := 121) rfl) rfl, List.forall_mem_cons.mpr ⟨inGw (inT2 (i := 123) rfl) rfl, List.forall_mem_cons.mpr ⟨inGw (inT2 (i := 125) rfl) rfl, List.forall_mem_cons.mpr ⟨inGw (inT2 (i := 127) rfl) rfl, List.forall_mem_cons.mpr ⟨inGw (inT2 (i := 129) rfl) rfl, List.forall_mem_cons.mpr ⟨inGw (inT2 (i := 131) rfl) rfl, List.forall_mem_cons.mpr ⟨inGw (inT2 (i := 133) rfl) rfl, List.forall_mem_cons.mpr ⟨inGw (inT2 (i := 135) rfl) rfl, List.forall_mem_cons.mpr ⟨inGw (inT2 (i := 137) rfl) rfl, fun _ h => nomatch h⟩⟩⟩⟩⟩⟩⟩⟩⟩⟩⟩⟩⟩⟩⟩⟩⟩⟩⟩⟩
theorem cl_10 : ClK 10 RX11 TX11 20 tyX11 := ⟨rfl, clw_10, rfl, tyX11_ok, nmX11, by decide +kernel⟩
theorem clw_11 : ∀ w ∈ u_ws RX12 TX12 54, w ∈ wsG := List.forall_mem_cons.mpr ⟨inGw (inT7 (i := 69) rfl) rfl, List.forall_mem_cons.mpr ⟨inGw (inT7 (i := 71) rfl) rfl, List.forall_mem_cons.mpr ⟨inGw (inT7 (i := 73) rfl) rfl, List.forall_mem_cons.mpr ⟨inGw (inT7 (i := 75) rfl) rfl, List.forall_mem_cons.mpr ⟨inGw (inT7 (i := 77) rfl) rfl, List.forall_mem_cons.mpr ⟨inGw (inT7 (i := 79) rfl) rfl, List.forall_mem_cons.mpr ⟨inGw (inT7 (i := 81) rfl) rfl, List.forall_mem_cons.mpr ⟨inGw (inT7 (i := 83) rfl) rfl, List.forall_mem_cons.mpr ⟨inGw (inT7 (i := 85) rfl) rfl, List.forall_mem_cons.mpr ⟨inGw (inT7 (i := 87) rfl) rfl, List.forall_mem_cons.mpr ⟨inGw (inT7 (i := 89) rfl) rfl, List.forall_mem_cons.mpr ⟨inGw (inT7 (i := 91) rfl) rfl, List.forall_mem_cons.mpr ⟨inGw (inT7 (i := 93) rfl) rfl, List.forall_mem_cons.mpr ⟨inGw (inT7 (i := 95) rfl) rfl, List.forall_mem_cons.mpr ⟨inGw (inT7 (i := 97) rfl) rfl, List.forall_mem_cons.mpr ⟨inGw (inT7 (i := 99) rfl) rfl, List.forall_mem_cons.mpr ⟨inGw (inT7 (i := 101) rfl) rfl, List.forall_mem_cons.mpr ⟨inGw (inT7 (i := 103) rfl) rfl, List.forall_mem_cons.mpr ⟨inGw (inT7 (i := 105) rfl) rfl, List.forall_mem_cons.mpr ⟨inGw (inT7 (i := 107) rfl) rfl, List.forall_mem_cons.mpr ⟨inGw (inT7 (i := 109) rfl) rfl, List.forall_mem_cons.mpr ⟨inGw (inT7 (i := 111) rfl) rfl, List.forall_mem_cons.mpr ⟨inGw (inT7 (i := 113) rfl) rfl, List.forall_mem_cons.mpr ⟨inGw (inT7 (i := 115) rfl) rfl, List.forall_mem_cons.mpr ⟨inGw (inT7 (i := 117) rfl) rfl, List.forall_mem_cons.mpr ⟨inGw (inT7 (i := 119) rfl) rfl, List.forall_mem_cons.mpr ⟨inGw (inT7 (i := 121) rfl) rfl, List.forall_mem_cons.mpr ⟨inGw (inT7 (i := 123) rfl) rfl, List.forall_mem_cons.mpr ⟨inGw (inT7 (i := 125) rfl) rfl, List.forall_mem_cons.mpr ⟨inGw (inT7 (i := 127) rfl) rfl, List.forall_mem_cons.mpr ⟨inGw (inT7 (i := 129) rfl) rfl, List.forall_mem_cons.mpr ⟨inGw (inT7 (i := 131) rfl) rfl, List.forall_mem_cons.mpr ⟨inGw (inT7 (i := 133) rfl) rfl, List.forall_mem_cons.mpr ⟨inGw (inT7 (i := 135) rfl) rfl, List.forall_mem_cons.mpr ⟨inGw (inT7 (i := 137) rfl) rfl, List.forall_mem_cons.mpr ⟨inGw (inT7 (i := 139) rfl) rfl, List.forall_mem_cons.mpr ⟨inGw (inT7 (i := 141) rfl) rfl, List.forall_mem_cons.mpr ⟨inGw (inT7 (i := 143) rfl) rfl, List.forall_mem_cons.mpr ⟨inGw (inT7 (i := 145) rfl) rfl, List.forall_mem_cons.mpr ⟨inGw (inT7 (i := 147) rfl) rfl, List.forall_mem_cons.mpr ⟨inGw (inT7 (i := 149) rfl) rfl, List.forall_mem_cons.mpr ⟨inGw (inT7 (i := 151) rfl) rfl, List.forall_mem_cons.mpr ⟨inGw (inT7 (i := 153) rfl) rfl, List.forall_mem_cons.mpr ⟨inGw (inT7 (i := 155) rfl) rfl, List.forall_mem_cons.mpr ⟨inGw (inT7 (i := 157) rfl) rfl, List.forall_mem_cons.mpr ⟨inGw (inT7 (i := 159) rfl) rfl, List.forall_mem_cons.mpr ⟨inGw (inT7 (i := 161) rfl) rfl, List.forall_mem_cons.mpr ⟨inGw (inT7 (i := 163) rfl) rfl, List.forall_mem_cons.mpr ⟨inGw (inT7 (i := 165) rfl) rfl, List.forall_mem_cons.mpr ⟨inGw (inT7 (i := 167) rfl) rfl, List.forall_mem_cons.mpr ⟨inGw (inT7 (i := 169) rfl) rfl, List.forall_mem_cons.mpr ⟨inGw (inT7 (i := 171) rfl) rfl, List.forall_mem_cons.mpr ⟨inGw (inT7 (i := 173) rfl) rfl, List.forall_mem_cons.mpr ⟨inGw (inT7 (i := 175) rfl) rfl, fun _ h => nomatch h⟩⟩⟩⟩⟩⟩⟩⟩⟩⟩⟩⟩⟩⟩⟩⟩⟩⟩⟩⟩⟩⟩⟩⟩⟩⟩⟩⟩⟩⟩⟩⟩⟩⟩⟩⟩⟩⟩⟩⟩⟩⟩⟩⟩⟩⟩⟩⟩⟩⟩⟩⟩⟩⟩
theorem cl_11 : ClK 11 RX12 TX12 54 tyX12 := ⟨rfl, clw_11, rfl, tyX12_ok, nmX12, by decide +kernel⟩
theorem cal_X11_init {M : MI} {index : Nat} : Cal M index MX11_init 0 := ⟨rfl, by decide, q_139, q_110, by decide +kernel, by decide +kernel, by decide +kernel⟩
theorem cal_X11_ahead {M : MI} {index : Nat} : Cal M index MX11_ahead 2 := ⟨rfl, by decide, q_1504, q_110, by decide +kernel, by decide +kernel, by decide +kernel⟩
theorem cal_X11_banns {M : MI} {index : Nat} : Cal M index MX11_banns 2 := ⟨rfl, by decide, q_1256, q_110, by decide +kernel, by decide +kernel, by decide +kernel⟩
theorem cal_X11_best {M : MI} {index : Nat} : Cal M index MX11_best 0 := ⟨rfl, by decide, q_620, q_110, by decide +kernel, by decide +kernel, by decide +kernel⟩
theorem cal_X11_bestFor {M : MI} {index : Nat} : Cal M index MX11_bestFor 1 := ⟨rfl, by decide, q_1338, q_110, by decide +kernel, by decide +kernel, by decide +kernel⟩
theorem cal_X11_bridges {M : MI} {index : Nat} : Cal M index MX11_bridges 1 := ⟨rfl, by decide, q_1405, q_110, by decide +kernel, by decide +kernel, by decide +kernel⟩
theorem cal_X11_centuries {M : MI} {index : Nat} : Cal M index MX11_centuries 4 := ⟨rfl, by decide, q_1521, q_110, by decide +kernel, by decide +kernel, by decide +kernel⟩
theorem cal_X11_city {M : MI} {index : Nat} : Cal M index MX11_city 1 := ⟨rfl, by decide, q_710, q_110, by decide +kernel, by decide +kernel, by decide +kernel⟩
theorem cal_X11_count {M : MI} {index : Nat} : Cal M index MX11_count 1 := ⟨rfl, by decide, q_702, q_110, by decide +kernel, by decide +kernel, by decide +kernel⟩
theorem cal_X11_drawBelow {M : MI} {index : Nat} : Cal M index MX11_drawBelow 2 := ⟨rfl, by decide, q_1536, q_110, by decide +kernel, by decide +kernel, by decide +kernel⟩
theorem cal_X11_dreamCenturies {M : MI} {index : Nat} : Cal M index MX11_dreamCenturies 3 := ⟨rfl, by decide, q_1529, q_110, by decide +kernel, by decide +kernel, by decide +kernel⟩
theorem cal_X11_even {M : MI} {index : Nat} : Cal M index MX11_even 0 := ⟨rfl, by decide, q_635, q_110, by decide +kernel, by decide +kernel, by decide +kernel⟩
theorem cal_X11_fair {M : MI} {index : Nat} : Cal M index MX11_fair 1 := ⟨rfl, by decide, q_1412, q_110, by decide +kernel, by decide +kernel, by decide +kernel⟩
theorem cal_X11_fault {M : MI} {index : Nat} : Cal M index MX11_fault 0 := ⟨rfl, by decide, q_500, q_110, by decide +kernel, by decide +kernel, by decide +kernel⟩
theorem cal_X11_feed {M : MI} {index : Nat} : Cal M index MX11_feed 5 := ⟨rfl, by decide, q_492, q_110, by decide +kernel, by decide +kernel, by decide +kernel⟩
theorem cal_X11_gets {M : MI} {index : Nat} : Cal M index MX11_gets 3 := ⟨rfl, by decide, q_1496, q_110, by decide +kernel, by decide +kernel, by decide +kernel⟩
theorem cal_X11_greatestNumber {M : MI} {index : Nat} : Cal M index MX11_greatestNumber 1 := ⟨rfl, by decide, q_1313, q_110, by decide +kernel, by decide +kernel, by decide +kernel⟩
theorem cal_X11_houseWith {M : MI} {index : Nat} : Cal M index MX11_houseWith 2 := ⟨rfl, by decide, q_1298, q_110, by decide +kernel, by decide +kernel, by decide +kernel⟩
theorem cal_X11_image {M : MI} {index : Nat} : Cal M index MX11_image 0 := ⟨rfl, by decide, q_675, q_110, by decide +kernel, by decide +kernel, by decide +kernel⟩
theorem cal_X11_isDowry {M : MI} {index : Nat} : Cal M index MX11_isDowry 1 := ⟨rfl, by decide, q_1472, q_110, by decide +kernel, by decide +kernel, by decide +kernel⟩
theorem cal_X11_lane {M : MI} {index : Nat} : Cal M index MX11_lane 0 := ⟨rfl, by decide, q_653, q_110, by decide +kernel, by decide +kernel, by decide +kernel⟩
theorem cal_X11_last {M : MI} {index : Nat} : Cal M index MX11_last 1 := ⟨rfl, by decide, q_1309, q_110, by decide +kernel, by decide +kernel, by decide +kernel⟩
theorem cal_X11_law {M : MI} {index : Nat} : Cal M index MX11_law 1 := ⟨rfl, by decide, q_978, q_110, by decide +kernel, by decide +kernel, by decide +kernel⟩
theorem cal_X11_letter {M : MI} {index : Nat} : Cal M index MX11_letter 2 := ⟨rfl, by decide, q_1294, q_110, by decide +kernel, by decide +kernel, by decide +kernel⟩
theorem cal_X11_likes {M : MI} {index : Nat} : Cal M index MX11_likes 2 := ⟨rfl, by decide, q_1249, q_110, by decide +kernel, by decide +kernel, by decide +kernel⟩
theorem cal_X11_look {M : MI} {index : Nat} : Cal M index MX11_look 2 := ⟨rfl, by decide, q_1449, q_110, by decide +kernel, by decide +kernel, by decide +kernel⟩
theorem cal_X11_mates {M : MI} {index : Nat} : Cal M index MX11_mates 2 := ⟨rfl, by decide, q_1419, q_110, by decide +kernel, by decide +kernel, by decide +kernel⟩
theorem cal_X11_matesOf {M : MI} {index : Nat} : Cal M index MX11_matesOf 2 := ⟨rfl, by decide, q_1423, q_110, by decide +kernel, by decide +kernel, by decide +kernel⟩
theorem cal_X11_mayBeAlone {M : MI} {index : Nat} : Cal M index MX11_mayBeAlone 1 := ⟨rfl, by decide, q_1436, q_110, by decide +kernel, by decide +kernel, by decide +kernel⟩
theorem cal_X11_missing {M : MI} {index : Nat} : Cal M index MX11_missing 1 := ⟨rfl, by decide, q_1320, q_110, by decide +kernel, by decide +kernel, by decide +kernel⟩
theorem cal_X11_need {M : MI} {index : Nat} : Cal M index MX11_need 1 := ⟨rfl, by decide, q_718, q_110, by decide +kernel, by decide +kernel, by decide +kernel⟩
theorem cal_X11_needCenturies {M : MI} {index : Nat} : Cal M index MX11_needCenturies 2 := ⟨rfl, by decide, q_1525, q_110, by decide +kernel, by decide +kernel, by decide +kernel⟩
theorem cal_X11_needCorner {M : MI} {index : Nat} : Cal M index MX11_needCorner 1 := ⟨rfl, by decide, q_1353, q_110, by decide +kernel, by decide +kernel, by decide +kernel⟩
theorem cal_X11_needElement {M : MI} {index : Nat} : Cal M index MX11_needElement 1 := ⟨rfl, by decide, q_1212, q_110, by decide +kernel, by decide +kernel, by decide +kernel⟩
theorem cal_X11_needHouse {M : MI} {index : Nat} : Cal M index MX11_needHouse 1 := ⟨rfl, by decide, q_1268, q_110, by decide +kernel, by decide +kernel, by decide +kernel⟩
theorem cal_X11_needStreet {M : MI} {index : Nat} : Cal M index MX11_needStreet 1 := ⟨rfl, by decide, q_1208, q_110, by decide +kernel, by decide +kernel, by decide +kernel⟩
theorem cal_X11_nextSeed {M : MI} {index : Nat} : Cal M index MX11_nextSeed 1 := ⟨rfl, by decide, q_1532, q_110, by decide +kernel, by decide +kernel, by decide +kernel⟩
theorem cal_X11_number {M : MI} {index : Nat} : Cal M index MX11_number 2 := ⟨rfl, by decide, q_1264, q_110, by decide +kernel, by decide +kernel, by decide +kernel⟩
theorem cal_X11_openText {M : MI} {index : Nat} : Cal M index MX11_openText 2 := ⟨rfl, by decide, q_714, q_110, by decide +kernel, by decide +kernel, by decide +kernel⟩
theorem cal_X11_post {M : MI} {index : Nat} : Cal M index MX11_post 1 := ⟨rfl, by decide, q_1158, q_110, by decide +kernel, by decide +kernel, by decide +kernel⟩
theorem cal_X11_reach {M : MI} {index : Nat} : Cal M index MX11_reach 1 := ⟨rfl, by decide, q_1398, q_110, by decide +kernel, by decide +kernel, by decide +kernel⟩
theorem cal_X11_restore {M : MI} {index : Nat} : Cal M index MX11_restore 0 := ⟨rfl, by decide, q_689, q_110, by decide +kernel, by decide +kernel, by decide +kernel⟩
theorem cal_X11_right {M : MI} {index : Nat} : Cal M index MX11_right 1 := ⟨rfl, by decide, q_1461, q_110, by decide +kernel, by decide +kernel, by decide +kernel⟩
theorem cal_X11_round {M : MI} {index : Nat} : Cal M index MX11_round 1 := ⟨rfl, by decide, q_1380, q_110, by decide +kernel, by decide +kernel, by decide +kernel⟩
theorem cal_X11_span {M : MI} {index : Nat} : Cal M index MX11_span 6 := ⟨rfl, by decide, q_1544, q_110, by decide +kernel, by decide +kernel, by decide +kernel⟩
theorem cal_X11_stable {M : MI} {index : Nat} : Cal M index MX11_stable 0 := ⟨rfl, by decide, q_521, q_110, by decide +kernel, by decide +kernel, by decide +kernel⟩
theorem cal_X11_stableFor {M : MI} {index : Nat} : Cal M index MX11_stableFor 1 := ⟨rfl, by decide, q_1327, q_110, by decide +kernel, by decide +kernel, by decide +kernel⟩
theorem cal_X11_status {M : MI} {index : Nat} : Cal M index MX11_status 1 := ⟨rfl, by decide, q_698, q_110, by decide +kernel, by decide +kernel, by decide +kernel⟩
theorem cal_X11_stop {M : MI} {index : Nat} : Cal M index MX11_stop 0 := ⟨rfl, by decide, q_662, q_110, by decide +kernel, by decide +kernel, by decide +kernel⟩
theorem cal_X11_street {M : MI} {index : Nat} : Cal M index MX11_street 2 := ⟨rfl, by decide, q_1204, q_110, by decide +kernel, by decide +kernel, by decide +kernel⟩
theorem cal_X11_suitors {M : MI} {index : Nat} : Cal M index MX11_suitors 4 := ⟨rfl, by decide, q_1469, q_110, by decide +kernel, by decide +kernel, by decide +kernel⟩
theorem cal_X11_tapeFour {M : MI} {index : Nat} : Cal M index MX11_tapeFour 1 := ⟨rfl, by decide, q_496, q_110, by decide +kernel, by decide +kernel, by decide +kernel⟩
theorem cal_X11_tempted {M : MI} {index : Nat} : Cal M index MX11_tempted 0 := ⟨rfl, by decide, q_624, q_110, by decide +kernel, by decide +kernel, by decide +kernel⟩
theorem cal_X11_told {M : MI} {index : Nat} : Cal M index MX11_told 1 := ⟨rfl, by decide, q_1183, q_110, by decide +kernel, by decide +kernel, by decide +kernel⟩
theorem cal_X11_undo {M : MI} {index : Nat} : Cal M index MX11_undo 0 := ⟨rfl, by decide, q_504, q_110, by decide +kernel, by decide +kernel, by decide +kernel⟩
theorem cal_X11_way {M : MI} {index : Nat} : Cal M index MX11_way 2 := ⟨rfl, by decide, q_1349, q_110, by decide +kernel, by decide +kernel, by decide +kernel⟩
theorem cal_X11_work {M : MI} {index : Nat} : Cal M index MX11_work 1 := ⟨rfl, by decide, q_1040, q_110, by decide +kernel, by decide +kernel, by decide +kernel⟩
theorem cal_X11_wouldLeave {M : MI} {index : Nat} : Cal M index MX11_wouldLeave 2 := ⟨rfl, by decide, q_628, q_110, by decide +kernel, by decide +kernel, by decide +kernel⟩
theorem cal_X0_init {M : MI} {index : Nat} : Cal M index MX0_init 0 := ⟨rfl, by decide, q_174, q_112, by decide +kernel, by decide +kernel, by decide +kernel⟩
theorem cal_X0_addCorner {M : MI} {index : Nat} : Cal M index MX0_addCorner 2 := ⟨rfl, by decide, q_904, q_112, by decide +kernel, by decide +kernel, by decide +kernel⟩
theorem cal_X0_addGood {M : MI} {index : Nat} : Cal M index MX0_addGood 2 := ⟨rfl, by decide, q_943, q_112, by decide +kernel, by decide +kernel, by decide +kernel⟩
theorem cal_X0_addStreet {M : MI} {index : Nat} : Cal M index MX0_addStreet 4 := ⟨rfl, by decide, q_916, q_112, by decide +kernel, by decide +kernel, by decide +kernel⟩
theorem cal_X0_another {M : MI} {index : Nat} : Cal M index MX0_another 3 := ⟨rfl, by decide, q_912, q_112, by decide +kernel, by decide +kernel, by decide +kernel⟩
theorem cal_X0_clear {M : MI} {index : Nat} : Cal M index MX0_clear 0 := ⟨rfl, by decide, q_179, q_112, by decide +kernel, by decide +kernel, by decide +kernel⟩
theorem cal_X0_commonCorners {M : MI} {index : Nat} : Cal M index MX0_commonCorners 2 := ⟨rfl, by decide, q_576, q_112, by decide +kernel, by decide +kernel, by decide +kernel⟩
theorem cal_X0_cornersAt {M : MI} {index : Nat} : Cal M index MX0_cornersAt 2 := ⟨rfl, by decide, q_671, q_112, by decide +kernel, by decide +kernel, by decide +kernel⟩
theorem cal_X0_endOf {M : MI} {index : Nat} : Cal M index MX0_endOf 1 := ⟨rfl, by decide, q_1236, q_112, by decide +kernel, by decide +kernel, by decide +kernel⟩
theorem cal_X0_firstTreesOf {M : MI} {index : Nat} : Cal M index MX0_firstTreesOf 1 := ⟨rfl, by decide, q_424, q_112, by decide +kernel, by decide +kernel, by decide +kernel⟩
theorem cal_X0_forbid {M : MI} {index : Nat} : Cal M index MX0_forbid 2 := ⟨rfl, by decide, q_935, q_112, by decide +kernel, by decide +kernel, by decide +kernel⟩
theorem cal_X0_housesOf {M : MI} {index : Nat} : Cal M index MX0_housesOf 1 := ⟨rfl, by decide, q_564, q_112, by decide +kernel, by decide +kernel, by decide +kernel⟩
theorem cal_X0_isFull {M : MI} {index : Nat} : Cal M index MX0_isFull 1 := ⟨rfl, by decide, q_887, q_112, by decide +kernel, by decide +kernel, by decide +kernel⟩
theorem cal_X0_isNever {M : MI} {index : Nat} : Cal M index MX0_isNever 2 := ⟨rfl, by decide, q_542, q_112, by decide +kernel, by decide +kernel, by decide +kernel⟩
theorem cal_X0_kindOf {M : MI} {index : Nat} : Cal M index MX0_kindOf 1 := ⟨rfl, by decide, q_820, q_112, by decide +kernel, by decide +kernel, by decide +kernel⟩
theorem cal_X0_laneX {M : MI} {index : Nat} : Cal M index MX0_laneX 1 := ⟨rfl, by decide, q_658, q_112, by decide +kernel, by decide +kernel, by decide +kernel⟩
theorem cal_X0_laneY {M : MI} {index : Nat} : Cal M index MX0_laneY 1 := ⟨rfl, by decide, q_667, q_112, by decide +kernel, by decide +kernel, by decide +kernel⟩
theorem cal_X0_lengthOf {M : MI} {index : Nat} : Cal M index MX0_lengthOf 1 := ⟨rfl, by decide, q_580, q_112, by decide +kernel, by decide +kernel, by decide +kernel⟩
theorem cal_X0_liking {M : MI} {index : Nat} : Cal M index MX0_liking 2 := ⟨rfl, by decide, q_572, q_112, by decide +kernel, by decide +kernel, by decide +kernel⟩
theorem cal_X0_readAll {M : MI} {index : Nat} : Cal M index MX0_readAll 1 := ⟨rfl, by decide, q_794, q_112, by decide +kernel, by decide +kernel, by decide +kernel⟩
theorem cal_X0_readClause {M : MI} {index : Nat} : Cal M index MX0_readClause 2 := ⟨rfl, by decide, q_806, q_112, by decide +kernel, by decide +kernel, by decide +kernel⟩
theorem cal_X0_readCorner {M : MI} {index : Nat} : Cal M index MX0_readCorner 1 := ⟨rfl, by decide, q_891, q_112, by decide +kernel, by decide +kernel, by decide +kernel⟩
theorem cal_X0_readGood {M : MI} {index : Nat} : Cal M index MX0_readGood 1 := ⟨rfl, by decide, q_939, q_112, by decide +kernel, by decide +kernel, by decide +kernel⟩
theorem cal_X0_readLane {M : MI} {index : Nat} : Cal M index MX0_readLane 1 := ⟨rfl, by decide, q_947, q_112, by decide +kernel, by decide +kernel, by decide +kernel⟩
theorem cal_X0_readLikes {M : MI} {index : Nat} : Cal M index MX0_readLikes 1 := ⟨rfl, by decide, q_923, q_112, by decide +kernel, by decide +kernel, by decide +kernel⟩
theorem cal_X0_readNever {M : MI} {index : Nat} : Cal M index MX0_readNever 1 := ⟨rfl, by decide, q_931, q_112, by decide +kernel, by decide +kernel, by decide +kernel⟩
theorem cal_X0_readRiver {M : MI} {index : Nat} : Cal M index MX0_readRiver 1 := ⟨rfl, by decide, q_951, q_112, by decide +kernel, by decide +kernel, by decide +kernel⟩
theorem cal_X0_readStreet {M : MI} {index : Nat} : Cal M index MX0_readStreet 1 := ⟨rfl, by decide, q_909, q_112, by decide +kernel, by decide +kernel, by decide +kernel⟩
theorem cal_X0_setLane {M : MI} {index : Nat} : Cal M index MX0_setLane 4 := ⟨rfl, by decide, q_186, q_112, by decide +kernel, by decide +kernel, by decide +kernel⟩
theorem cal_X0_setLiking {M : MI} {index : Nat} : Cal M index MX0_setLiking 3 := ⟨rfl, by decide, q_927, q_112, by decide +kernel, by decide +kernel, by decide +kernel⟩
theorem cal_X0_startOf {M : MI} {index : Nat} : Cal M index MX0_startOf 1 := ⟨rfl, by decide, q_1232, q_112, by decide +kernel, by decide +kernel, by decide +kernel⟩
theorem cal_X0_worth {M : MI} {index : Nat} : Cal M index MX0_worth 2 := ⟨rfl, by decide, q_643, q_112, by decide +kernel, by decide +kernel, by decide +kernel⟩
theorem cal_X0_worthToOne {M : MI} {index : Nat} : Cal M index MX0_worthToOne 1 := ⟨rfl, by decide, q_639, q_112, by decide +kernel, by decide +kernel, by decide +kernel⟩
theorem cal_X0_worthToOther {M : MI} {index : Nat} : Cal M index MX0_worthToOther 1 := ⟨rfl, by decide, q_647, q_112, by decide +kernel, by decide +kernel, by decide +kernel⟩
theorem cal_X1_init {M : MI} {index : Nat} : Cal M index MX1_init 0 := ⟨rfl, by decide, q_392, q_121, by decide +kernel, by decide +kernel, by decide +kernel⟩
theorem cal_X1_bestAgainst {M : MI} {index : Nat} : Cal M index MX1_bestAgainst 3 := ⟨rfl, by decide, q_1479, q_121, by decide +kernel, by decide +kernel, by decide +kernel⟩
theorem cal_X1_findRests {M : MI} {index : Nat} : Cal M index MX1_findRests 3 := ⟨rfl, by decide, q_1476, q_121, by decide +kernel, by decide +kernel, by decide +kernel⟩
theorem cal_X1_gain {M : MI} {index : Nat} : Cal M index MX1_gain 3 := ⟨rfl, by decide, q_1482, q_121, by decide +kernel, by decide +kernel, by decide +kernel⟩
theorem cal_X1_weigh {M : MI} {index : Nat} : Cal M index MX1_weigh 4 := ⟨rfl, by decide, q_1488, q_121, by decide +kernel, by decide +kernel, by decide +kernel⟩
theorem cal_X2_init {M : MI} {index : Nat} : Cal M index MX2_init 0 := ⟨rfl, by decide, q_257, q_114, by decide +kernel, by decide +kernel, by decide +kernel⟩
theorem cal_X2_append {M : MI} {index : Nat} : Cal M index MX2_append 1 := ⟨rfl, by decide, q_1003, q_114, by decide +kernel, by decide +kernel, by decide +kernel⟩
theorem cal_X2_clear {M : MI} {index : Nat} : Cal M index MX2_clear 0 := ⟨rfl, by decide, q_963, q_114, by decide +kernel, by decide +kernel, by decide +kernel⟩
theorem cal_X2_fact {M : MI} {index : Nat} : Cal M index MX2_fact 5 := ⟨rfl, by decide, q_560, q_114, by decide +kernel, by decide +kernel, by decide +kernel⟩
theorem cal_X2_hindrance {M : MI} {index : Nat} : Cal M index MX2_hindrance 4 := ⟨rfl, by decide, q_538, q_114, by decide +kernel, by decide +kernel, by decide +kernel⟩
theorem cal_X2_joined {M : MI} {index : Nat} : Cal M index MX2_joined 3 := ⟨rfl, by decide, q_550, q_114, by decide +kernel, by decide +kernel, by decide +kernel⟩
theorem cal_X2_mayOpen {M : MI} {index : Nat} : Cal M index MX2_mayOpen 2 := ⟨rfl, by decide, q_1010, q_114, by decide +kernel, by decide +kernel, by decide +kernel⟩
theorem cal_X2_readAll {M : MI} {index : Nat} : Cal M index MX2_readAll 1 := ⟨rfl, by decide, q_982, q_114, by decide +kernel, by decide +kernel, by decide +kernel⟩
theorem cal_X2_readPair {M : MI} {index : Nat} : Cal M index MX2_readPair 3 := ⟨rfl, by decide, q_1032, q_114, by decide +kernel, by decide +kernel, by decide +kernel⟩
theorem cal_X2_readProduct {M : MI} {index : Nat} : Cal M index MX2_readProduct 2 := ⟨rfl, by decide, q_990, q_114, by decide +kernel, by decide +kernel, by decide +kernel⟩
theorem cal_X2_readSum {M : MI} {index : Nat} : Cal M index MX2_readSum 2 := ⟨rfl, by decide, q_986, q_114, by decide +kernel, by decide +kernel, by decide +kernel⟩
theorem cal_X2_readUnit {M : MI} {index : Nat} : Cal M index MX2_readUnit 2 := ⟨rfl, by decide, q_994, q_114, by decide +kernel, by decide +kernel, by decide +kernel⟩
theorem cal_X2_value {M : MI} {index : Nat} : Cal M index MX2_value 4 := ⟨rfl, by decide, q_546, q_114, by decide +kernel, by decide +kernel, by decide +kernel⟩
theorem cal_X2_wordOf {M : MI} {index : Nat} : Cal M index MX2_wordOf 1 := ⟨rfl, by decide, q_1016, q_114, by decide +kernel, by decide +kernel, by decide +kernel⟩
theorem cal_X3_init {M : MI} {index : Nat} : Cal M index MX3_init 0 := ⟨rfl, by decide, q_331, q_118, by decide +kernel, by decide +kernel, by decide +kernel⟩
theorem cal_X3_clear {M : MI} {index : Nat} : Cal M index MX3_clear 0 := ⟨rfl, by decide, q_971, q_118, by decide +kernel, by decide +kernel, by decide +kernel⟩
theorem cal_X3_isFull {M : MI} {index : Nat} : Cal M index MX3_isFull 0 := ⟨rfl, by decide, q_1044, q_118, by decide +kernel, by decide +kernel, by decide +kernel⟩
theorem cal_X3_keepImage {M : MI} {index : Nat} : Cal M index MX3_keepImage 1 := ⟨rfl, by decide, q_679, q_118, by decide +kernel, by decide +kernel, by decide +kernel⟩
theorem cal_X3_keepWork {M : MI} {index : Nat} : Cal M index MX3_keepWork 1 := ⟨rfl, by decide, q_1085, q_118, by decide +kernel, by decide +kernel, by decide +kernel⟩
theorem cal_X3_takeImageBack {M : MI} {index : Nat} : Cal M index MX3_takeImageBack 1 := ⟨rfl, by decide, q_693, q_118, by decide +kernel, by decide +kernel, by decide +kernel⟩
theorem cal_X3_takeWorkBack {M : MI} {index : Nat} : Cal M index MX3_takeWorkBack 1 := ⟨rfl, by decide, q_508, q_118, by decide +kernel, by decide +kernel, by decide +kernel⟩
theorem cal_X4_init {M : MI} {index : Nat} : Cal M index MX4_init 0 := ⟨rfl, by decide, q_321, q_117, by decide +kernel, by decide +kernel, by decide +kernel⟩
theorem cal_X4_age {M : MI} {index : Nat} : Cal M index MX4_age 2 := ⟨rfl, by decide, q_1146, q_117, by decide +kernel, by decide +kernel, by decide +kernel⟩
theorem cal_X4_allHoles {M : MI} {index : Nat} : Cal M index MX4_allHoles 0 := ⟨rfl, by decide, q_1195, q_117, by decide +kernel, by decide +kernel, by decide +kernel⟩
theorem cal_X4_allTrees {M : MI} {index : Nat} : Cal M index MX4_allTrees 0 := ⟨rfl, by decide, q_1191, q_117, by decide +kernel, by decide +kernel, by decide +kernel⟩
theorem cal_X4_begin {M : MI} {index : Nat} : Cal M index MX4_begin 1 := ⟨rfl, by decide, q_416, q_117, by decide +kernel, by decide +kernel, by decide +kernel⟩
theorem cal_X4_bind {M : MI} {index : Nat} : Cal M index MX4_bind 3 := ⟨rfl, by decide, q_1106, q_117, by decide +kernel, by decide +kernel, by decide +kernel⟩
theorem cal_X4_copyFrom {M : MI} {index : Nat} : Cal M index MX4_copyFrom 1 := ⟨rfl, by decide, q_1508, q_117, by decide +kernel, by decide +kernel, by decide +kernel⟩
theorem cal_X4_couples {M : MI} {index : Nat} : Cal M index MX4_couples 0 := ⟨rfl, by decide, q_1187, q_117, by decide +kernel, by decide +kernel, by decide +kernel⟩
theorem cal_X4_holesOf {M : MI} {index : Nat} : Cal M index MX4_holesOf 1 := ⟨rfl, by decide, q_588, q_117, by decide +kernel, by decide +kernel, by decide +kernel⟩
theorem cal_X4_houseOf {M : MI} {index : Nat} : Cal M index MX4_houseOf 3 := ⟨rfl, by decide, q_1301, q_117, by decide +kernel, by decide +kernel, by decide +kernel⟩
theorem cal_X4_loadFrom {M : MI} {index : Nat} : Cal M index MX4_loadFrom 2 := ⟨rfl, by decide, q_512, q_117, by decide +kernel, by decide +kernel, by decide +kernel⟩
theorem cal_X4_longestYears {M : MI} {index : Nat} : Cal M index MX4_longestYears 0 := ⟨rfl, by decide, q_1513, q_117, by decide +kernel, by decide +kernel, by decide +kernel⟩
theorem cal_X4_mateOf {M : MI} {index : Nat} : Cal M index MX4_mateOf 1 := ⟨rfl, by decide, q_533, q_117, by decide +kernel, by decide +kernel, by decide +kernel⟩
theorem cal_X4_numberOf {M : MI} {index : Nat} : Cal M index MX4_numberOf 2 := ⟨rfl, by decide, q_1287, q_117, by decide +kernel, by decide +kernel, by decide +kernel⟩
theorem cal_X4_partFrom {M : MI} {index : Nat} : Cal M index MX4_partFrom 1 := ⟨rfl, by decide, q_1110, q_117, by decide +kernel, by decide +kernel, by decide +kernel⟩
theorem cal_X4_partedSoFar {M : MI} {index : Nat} : Cal M index MX4_partedSoFar 0 := ⟨rfl, by decide, q_1119, q_117, by decide +kernel, by decide +kernel, by decide +kernel⟩
theorem cal_X4_plantIn {M : MI} {index : Nat} : Cal M index MX4_plantIn 2 := ⟨rfl, by decide, q_1123, q_117, by decide +kernel, by decide +kernel, by decide +kernel⟩
theorem cal_X4_quarrelIn {M : MI} {index : Nat} : Cal M index MX4_quarrelIn 1 := ⟨rfl, by decide, q_1128, q_117, by decide +kernel, by decide +kernel, by decide +kernel⟩
theorem cal_X4_repaveIn {M : MI} {index : Nat} : Cal M index MX4_repaveIn 1 := ⟨rfl, by decide, q_1137, q_117, by decide +kernel, by decide +kernel, by decide +kernel⟩
theorem cal_X4_roleOf {M : MI} {index : Nat} : Cal M index MX4_roleOf 1 := ⟨rfl, by decide, q_1114, q_117, by decide +kernel, by decide +kernel, by decide +kernel⟩
theorem cal_X4_saveTo {M : MI} {index : Nat} : Cal M index MX4_saveTo 2 := ⟨rfl, by decide, q_684, q_117, by decide +kernel, by decide +kernel, by decide +kernel⟩
theorem cal_X4_setHoles {M : MI} {index : Nat} : Cal M index MX4_setHoles 2 := ⟨rfl, by decide, q_1133, q_117, by decide +kernel, by decide +kernel, by decide +kernel⟩
theorem cal_X4_treesOf {M : MI} {index : Nat} : Cal M index MX4_treesOf 1 := ⟨rfl, by decide, q_568, q_117, by decide +kernel, by decide +kernel, by decide +kernel⟩
theorem cal_X4_turnYear {M : MI} {index : Nat} : Cal M index MX4_turnYear 0 := ⟨rfl, by decide, q_1141, q_117, by decide +kernel, by decide +kernel, by decide +kernel⟩
theorem cal_X4_wed {M : MI} {index : Nat} : Cal M index MX4_wed 2 := ⟨rfl, by decide, q_1101, q_117, by decide +kernel, by decide +kernel, by decide +kernel⟩
theorem cal_X4_yearNow {M : MI} {index : Nat} : Cal M index MX4_yearNow 0 := ⟨rfl, by decide, q_584, q_117, by decide +kernel, by decide +kernel, by decide +kernel⟩
theorem cal_X4_yearsOf {M : MI} {index : Nat} : Cal M index MX4_yearsOf 1 := ⟨rfl, by decide, q_1150, q_117, by decide +kernel, by decide +kernel, by decide +kernel⟩
theorem cal_X5_init {M : MI} {index : Nat} : Cal M index MX5_init 0 := ⟨rfl, by decide, q_273, q_115, by decide +kernel, by decide +kernel, by decide +kernel⟩
theorem cal_X5_clear {M : MI} {index : Nat} : Cal M index MX5_clear 0 := ⟨rfl, by decide, q_967, q_115, by decide +kernel, by decide +kernel, by decide +kernel⟩
theorem cal_X5_fits {M : MI} {index : Nat} : Cal M index MX5_fits 2 := ⟨rfl, by decide, q_1427, q_115, by decide +kernel, by decide +kernel, by decide +kernel⟩
theorem cal_X5_has {M : MI} {index : Nat} : Cal M index MX5_has 1 := ⟨rfl, by decide, q_1172, q_115, by decide +kernel, by decide +kernel, by decide +kernel⟩
theorem cal_X5_leftAtWorst {M : MI} {index : Nat} : Cal M index MX5_leftAtWorst 5 := ⟨rfl, by decide, q_1453, q_115, by decide +kernel, by decide +kernel, by decide +kernel⟩
theorem cal_X5_readAll {M : MI} {index : Nat} : Cal M index MX5_readAll 1 := ⟨rfl, by decide, q_1162, q_115, by decide +kernel, by decide +kernel, by decide +kernel⟩
theorem cal_X5_readLine {M : MI} {index : Nat} : Cal M index MX5_readLine 1 := ⟨rfl, by decide, q_1167, q_115, by decide +kernel, by decide +kernel, by decide +kernel⟩
theorem cal_X5_rightLines {M : MI} {index : Nat} : Cal M index MX5_rightLines 2 := ⟨rfl, by decide, q_1431, q_115, by decide +kernel, by decide +kernel, by decide +kernel⟩
theorem cal_X6_init {M : MI} {index : Nat} : Cal M index MX6_init 0 := ⟨rfl, by decide, q_352, q_119, by decide +kernel, by decide +kernel, by decide +kernel⟩
theorem cal_X6_findAll {M : MI} {index : Nat} : Cal M index MX6_findAll 3 := ⟨rfl, by decide, q_525, q_119, by decide +kernel, by decide +kernel, by decide +kernel⟩
theorem cal_X6_firstStableMate {M : MI} {index : Nat} : Cal M index MX6_firstStableMate 1 := ⟨rfl, by decide, q_1331, q_119, by decide +kernel, by decide +kernel, by decide +kernel⟩
theorem cal_X6_isAllowed {M : MI} {index : Nat} : Cal M index MX6_isAllowed 2 := ⟨rfl, by decide, q_612, q_119, by decide +kernel, by decide +kernel, by decide +kernel⟩
theorem cal_X6_isStable {M : MI} {index : Nat} : Cal M index MX6_isStable 1 := ⟨rfl, by decide, q_608, q_119, by decide +kernel, by decide +kernel, by decide +kernel⟩
theorem cal_X6_judge {M : MI} {index : Nat} : Cal M index MX6_judge 1 := ⟨rfl, by decide, q_597, q_119, by decide +kernel, by decide +kernel, by decide +kernel⟩
theorem cal_X6_match {M : MI} {index : Nat} : Cal M index MX6_match 2 := ⟨rfl, by decide, q_593, q_119, by decide +kernel, by decide +kernel, by decide +kernel⟩
theorem cal_X6_mayMarry {M : MI} {index : Nat} : Cal M index MX6_mayMarry 4 := ⟨rfl, by decide, q_529, q_119, by decide +kernel, by decide +kernel, by decide +kernel⟩
theorem cal_X6_prefers {M : MI} {index : Nat} : Cal M index MX6_prefers 3 := ⟨rfl, by decide, q_616, q_119, by decide +kernel, by decide +kernel, by decide +kernel⟩
theorem cal_X6_warmestMate {M : MI} {index : Nat} : Cal M index MX6_warmestMate 1 := ⟨rfl, by decide, q_1342, q_119, by decide +kernel, by decide +kernel, by decide +kernel⟩
theorem cal_X6_warmth {M : MI} {index : Nat} : Cal M index MX6_warmth 1 := ⟨rfl, by decide, q_601, q_119, by decide +kernel, by decide +kernel, by decide +kernel⟩
theorem cal_X7_init {M : MI} {index : Nat} : Cal M index MX7_init 0 := ⟨rfl, by decide, q_290, q_116, by decide +kernel, by decide +kernel, by decide +kernel⟩
theorem cal_X7_append {M : MI} {index : Nat} : Cal M index MX7_append 3 := ⟨rfl, by decide, q_1076, q_116, by decide +kernel, by decide +kernel, by decide +kernel⟩
theorem cal_X7_kindOf {M : MI} {index : Nat} : Cal M index MX7_kindOf 1 := ⟨rfl, by decide, q_1057, q_116, by decide +kernel, by decide +kernel, by decide +kernel⟩
theorem cal_X7_perform {M : MI} {index : Nat} : Cal M index MX7_perform 6 := ⟨rfl, by decide, q_1089, q_116, by decide +kernel, by decide +kernel, by decide +kernel⟩
theorem cal_X7_performStep {M : MI} {index : Nat} : Cal M index MX7_performStep 4 := ⟨rfl, by decide, q_1096, q_116, by decide +kernel, by decide +kernel, by decide +kernel⟩
theorem cal_X7_readAgain {M : MI} {index : Nat} : Cal M index MX7_readAgain 3 := ⟨rfl, by decide, q_1070, q_116, by decide +kernel, by decide +kernel, by decide +kernel⟩
theorem cal_X7_readAll {M : MI} {index : Nat} : Cal M index MX7_readAll 2 := ⟨rfl, by decide, q_1048, q_116, by decide +kernel, by decide +kernel, by decide +kernel⟩
theorem cal_X7_readSecond {M : MI} {index : Nat} : Cal M index MX7_readSecond 3 := ⟨rfl, by decide, q_1081, q_116, by decide +kernel, by decide +kernel, by decide +kernel⟩
theorem cal_X7_readStep {M : MI} {index : Nat} : Cal M index MX7_readStep 3 := ⟨rfl, by decide, q_1053, q_116, by decide +kernel, by decide +kernel, by decide +kernel⟩
theorem cal_X8_init {M : MI} {index : Nat} : Cal M index MX8_init 0 := ⟨rfl, by decide, q_379, q_120, by decide +kernel, by decide +kernel, by decide +kernel⟩
theorem cal_X8_isOnePiece {M : MI} {index : Nat} : Cal M index MX8_isOnePiece 2 := ⟨rfl, by decide, q_1391, q_120, by decide +kernel, by decide +kernel, by decide +kernel⟩
theorem cal_X8_shorten {M : MI} {index : Nat} : Cal M index MX8_shorten 3 := ⟨rfl, by decide, q_1367, q_120, by decide +kernel, by decide +kernel, by decide +kernel⟩
theorem cal_X8_shortestRound {M : MI} {index : Nat} : Cal M index MX8_shortestRound 2 := ⟨rfl, by decide, q_1384, q_120, by decide +kernel, by decide +kernel, by decide +kernel⟩
theorem cal_X8_spread {M : MI} {index : Nat} : Cal M index MX8_spread 3 := ⟨rfl, by decide, q_1357, q_120, by decide +kernel, by decide +kernel, by decide +kernel⟩
theorem cal_X8_stepsTo {M : MI} {index : Nat} : Cal M index MX8_stepsTo 1 := ⟨rfl, by decide, q_1373, q_120, by decide +kernel, by decide +kernel, by decide +kernel⟩
theorem cal_X8_walk {M : MI} {index : Nat} : Cal M index MX8_walk 6 := ⟨rfl, by decide, q_1388, q_120, by decide +kernel, by decide +kernel, by decide +kernel⟩
theorem cal_X9_at {M : MI} {index : Nat} : Cal M index MX9_at 2 := ⟨rfl, by decide, q_427, q_113, by decide +kernel, by decide +kernel, by decide +kernel⟩
theorem cal_X9_copy {M : MI} {index : Nat} : Cal M index MX9_copy 5 := ⟨rfl, by decide, q_515, q_113, by decide +kernel, by decide +kernel, by decide +kernel⟩
theorem cal_X9_fill {M : MI} {index : Nat} : Cal M index MX9_fill 2 := ⟨rfl, by decide, q_182, q_113, by decide +kernel, by decide +kernel, by decide +kernel⟩
theorem cal_X9_put {M : MI} {index : Nat} : Cal M index MX9_put 3 := ⟨rfl, by decide, q_420, q_113, by decide +kernel, by decide +kernel, by decide +kernel⟩
theorem cal_X10_init {M : MI} {index : Nat} : Cal M index MX10_init 1 := ⟨rfl, by decide, q_147, q_111, by decide +kernel, by decide +kernel, by decide +kernel⟩
theorem cal_X10_answer {M : MI} {index : Nat} : Cal M index MX10_answer 0 := ⟨rfl, by decide, q_959, q_111, by decide +kernel, by decide +kernel, by decide +kernel⟩
theorem cal_X10_atEnd {M : MI} {index : Nat} : Cal M index MX10_atEnd 0 := ⟨rfl, by decide, q_798, q_111, by decide +kernel, by decide +kernel, by decide +kernel⟩
theorem cal_X10_byteAt {M : MI} {index : Nat} : Cal M index MX10_byteAt 1 := ⟨rfl, by decide, q_814, q_111, by decide +kernel, by decide +kernel, by decide +kernel⟩
theorem cal_X10_isDigit {M : MI} {index : Nat} : Cal M index MX10_isDigit 1 := ⟨rfl, by decide, q_898, q_111, by decide +kernel, by decide +kernel, by decide +kernel⟩
theorem cal_X10_isLetter {M : MI} {index : Nat} : Cal M index MX10_isLetter 1 := ⟨rfl, by decide, q_817, q_111, by decide +kernel, by decide +kernel, by decide +kernel⟩
theorem cal_X10_mark {M : MI} {index : Nat} : Cal M index MX10_mark 1 := ⟨rfl, by decide, q_883, q_111, by decide +kernel, by decide +kernel, by decide +kernel⟩
theorem cal_X10_open {M : MI} {index : Nat} : Cal M index MX10_open 1 := ⟨rfl, by decide, q_789, q_111, by decide +kernel, by decide +kernel, by decide +kernel⟩
theorem cal_X10_readNumber {M : MI} {index : Nat} : Cal M index MX10_readNumber 2 := ⟨rfl, by decide, q_895, q_111, by decide +kernel, by decide +kernel, by decide +kernel⟩
theorem cal_X10_readWord {M : MI} {index : Nat} : Cal M index MX10_readWord 0 := ⟨rfl, by decide, q_810, q_111, by decide +kernel, by decide +kernel, by decide +kernel⟩
theorem cal_X10_sees {M : MI} {index : Nat} : Cal M index MX10_sees 1 := ⟨rfl, by decide, q_1007, q_111, by decide +kernel, by decide +kernel, by decide +kernel⟩
theorem cal_X10_seesDigit {M : MI} {index : Nat} : Cal M index MX10_seesDigit 0 := ⟨rfl, by decide, q_998, q_111, by decide +kernel, by decide +kernel, by decide +kernel⟩
theorem cal_X10_skipBlanks {M : MI} {index : Nat} : Cal M index MX10_skipBlanks 0 := ⟨rfl, by decide, q_802, q_111, by decide +kernel, by decide +kernel, by decide +kernel⟩
theorem cal_X10_take {M : MI} {index : Nat} : Cal M index MX10_take 1 := ⟨rfl, by decide, q_955, q_111, by decide +kernel, by decide +kernel, by decide +kernel⟩
theorem cal_X10_wordIs {M : MI} {index : Nat} : Cal M index MX10_wordIs 1 := ⟨rfl, by decide, q_825, q_111, by decide +kernel, by decide +kernel, by decide +kernel⟩
theorem calH_L_ahead : CalH ML_ahead 4 := ⟨by decide, by decide, q_1500, q_109, by decide +kernel, by decide +kernel, by decide +kernel⟩
theorem calH_L_banns : CalH ML_banns 4 := ⟨by decide, by decide, q_1252, q_109, by decide +kernel, by decide +kernel, by decide +kernel⟩
theorem calH_L_bestFor : CalH ML_bestFor 3 := ⟨by decide, by decide, q_1334, q_109, by decide +kernel, by decide +kernel, by decide +kernel⟩
theorem calH_L_bridges : CalH ML_bridges 3 := ⟨by decide, by decide, q_1401, q_109, by decide +kernel, by decide +kernel, by decide +kernel⟩
theorem calH_L_centuries : CalH ML_centuries 6 := ⟨by decide, by decide, q_1517, q_109, by decide +kernel, by decide +kernel, by decide +kernel⟩
theorem calH_L_city : CalH ML_city 3 := ⟨by decide, by decide, q_705, q_109, by decide +kernel, by decide +kernel, by decide +kernel⟩
theorem calH_L_fair : CalH ML_fair 3 := ⟨by decide, by decide, q_1408, q_109, by decide +kernel, by decide +kernel, by decide +kernel⟩
theorem calH_L_gets : CalH ML_gets 5 := ⟨by decide, by decide, q_1492, q_109, by decide +kernel, by decide +kernel, by decide +kernel⟩
theorem calH_L_last : CalH ML_last 3 := ⟨by decide, by decide, q_1305, q_109, by decide +kernel, by decide +kernel, by decide +kernel⟩
theorem calH_L_law : CalH ML_law 3 := ⟨by decide, by decide, q_974, q_109, by decide +kernel, by decide +kernel, by decide +kernel⟩
theorem calH_L_letter : CalH ML_letter 4 := ⟨by decide, by decide, q_1290, q_109, by decide +kernel, by decide +kernel, by decide +kernel⟩
theorem calH_L_likes : CalH ML_likes 4 := ⟨by decide, by decide, q_1245, q_109, by decide +kernel, by decide +kernel, by decide +kernel⟩
theorem calH_L_look : CalH ML_look 4 := ⟨by decide, by decide, q_1445, q_109, by decide +kernel, by decide +kernel, by decide +kernel⟩
theorem calH_L_mates : CalH ML_mates 4 := ⟨by decide, by decide, q_1415, q_109, by decide +kernel, by decide +kernel, by decide +kernel⟩
theorem calH_L_missing : CalH ML_missing 3 := ⟨by decide, by decide, q_1316, q_109, by decide +kernel, by decide +kernel, by decide +kernel⟩
theorem calH_L_number : CalH ML_number 4 := ⟨by decide, by decide, q_1259, q_109, by decide +kernel, by decide +kernel, by decide +kernel⟩
theorem calH_L_post : CalH ML_post 3 := ⟨by decide, by decide, q_1154, q_109, by decide +kernel, by decide +kernel, by decide +kernel⟩
theorem calH_L_reach : CalH ML_reach 3 := ⟨by decide, by decide, q_1394, q_109, by decide +kernel, by decide +kernel, by decide +kernel⟩
theorem calH_L_right : CalH ML_right 3 := ⟨by decide, by decide, q_1457, q_109, by decide +kernel, by decide +kernel, by decide +kernel⟩
theorem calH_L_round : CalH ML_round 3 := ⟨by decide, by decide, q_1376, q_109, by decide +kernel, by decide +kernel, by decide +kernel⟩
theorem calH_L_span : CalH ML_span 8 := ⟨by decide, by decide, q_1540, q_109, by decide +kernel, by decide +kernel, by decide +kernel⟩
theorem calH_L_stableFor : CalH ML_stableFor 3 := ⟨by decide, by decide, q_1323, q_109, by decide +kernel, by decide +kernel, by decide +kernel⟩
theorem calH_L_street : CalH ML_street 4 := ⟨by decide, by decide, q_1199, q_109, by decide +kernel, by decide +kernel, by decide +kernel⟩
theorem calH_L_suitors : CalH ML_suitors 6 := ⟨by decide, by decide, q_1465, q_109, by decide +kernel, by decide +kernel, by decide +kernel⟩
theorem calH_L_told : CalH ML_told 3 := ⟨by decide, by decide, q_1179, q_109, by decide +kernel, by decide +kernel, by decide +kernel⟩
theorem calH_L_way : CalH ML_way 4 := ⟨by decide, by decide, q_1345, q_109, by decide +kernel, by decide +kernel, by decide +kernel⟩
theorem calH_L_work : CalH ML_work 3 := ⟨by decide, by decide, q_1036, q_109, by decide +kernel, by decide +kernel, by decide +kernel⟩
theorem cal_X12_init {M : MI} {index : Nat} : Cal M index MX12_init 0 := ⟨rfl, by decide, q_1549, q_122, by decide +kernel, by decide +kernel, by decide +kernel⟩
theorem cal_X12_ahead {M : MI} {index : Nat} : Cal M index MX12_ahead 2 := ⟨rfl, by decide, q_2135, q_122, by decide +kernel, by decide +kernel, by decide +kernel⟩
theorem cal_X12_away {M : MI} {index : Nat} : Cal M index MX12_away 2 := ⟨rfl, by decide, q_1895, q_122, by decide +kernel, by decide +kernel, by decide +kernel⟩
theorem cal_X12_bad {M : MI} {index : Nat} : Cal M index MX12_bad 3 := ⟨rfl, by decide, q_1745, q_122, by decide +kernel, by decide +kernel, by decide +kernel⟩
theorem cal_X12_banns {M : MI} {index : Nat} : Cal M index MX12_banns 2 := ⟨rfl, by decide, q_1956, q_122, by decide +kernel, by decide +kernel, by decide +kernel⟩
theorem cal_X12_bannsOf {M : MI} {index : Nat} : Cal M index MX12_bannsOf 3 := ⟨rfl, by decide, q_1884, q_122, by decide +kernel, by decide +kernel, by decide +kernel⟩
theorem cal_X12_best {M : MI} {index : Nat} : Cal M index MX12_best 0 := ⟨rfl, by decide, q_2030, q_122, by decide +kernel, by decide +kernel, by decide +kernel⟩
theorem cal_X12_bestFor {M : MI} {index : Nat} : Cal M index MX12_bestFor 1 := ⟨rfl, by decide, q_2034, q_122, by decide +kernel, by decide +kernel, by decide +kernel⟩
theorem cal_X12_blanks {M : MI} {index : Nat} : Cal M index MX12_blanks 0 := ⟨rfl, by decide, q_1753, q_122, by decide +kernel, by decide +kernel, by decide +kernel⟩
theorem cal_X12_bridges {M : MI} {index : Nat} : Cal M index MX12_bridges 1 := ⟨rfl, by decide, q_2066, q_122, by decide +kernel, by decide +kernel, by decide +kernel⟩
theorem cal_X12_by {M : MI} {index : Nat} : Cal M index MX12_by 3 := ⟨rfl, by decide, q_1902, q_122, by decide +kernel, by decide +kernel, by decide +kernel⟩
theorem cal_X12_byLaw {M : MI} {index : Nat} : Cal M index MX12_byLaw 0 := ⟨rfl, by decide, q_1899, q_122, by decide +kernel, by decide +kernel, by decide +kernel⟩
theorem cal_X12_byteAt {M : MI} {index : Nat} : Cal M index MX12_byteAt 1 := ⟨rfl, by decide, q_1757, q_122, by decide +kernel, by decide +kernel, by decide +kernel⟩
theorem cal_X12_centuries {M : MI} {index : Nat} : Cal M index MX12_centuries 4 := ⟨rfl, by decide, q_2139, q_122, by decide +kernel, by decide +kernel, by decide +kernel⟩
theorem cal_X12_centuriesBy {M : MI} {index : Nat} : Cal M index MX12_centuriesBy 3 := ⟨rfl, by decide, q_2143, q_122, by decide +kernel, by decide +kernel, by decide +kernel⟩
theorem cal_X12_city {M : MI} {index : Nat} : Cal M index MX12_city 1 := ⟨rfl, by decide, q_1738, q_122, by decide +kernel, by decide +kernel, by decide +kernel⟩
theorem cal_X12_clause {M : MI} {index : Nat} : Cal M index MX12_clause 0 := ⟨rfl, by decide, q_1761, q_122, by decide +kernel, by decide +kernel, by decide +kernel⟩
theorem cal_X12_copies {M : MI} {index : Nat} : Cal M index MX12_copies 2 := ⟨rfl, by decide, q_1869, q_122, by decide +kernel, by decide +kernel, by decide +kernel⟩
theorem cal_X12_count {M : MI} {index : Nat} : Cal M index MX12_count 1 := ⟨rfl, by decide, q_2176, q_122, by decide +kernel, by decide +kernel, by decide +kernel⟩
theorem cal_X12_couplesIn {M : MI} {index : Nat} : Cal M index MX12_couplesIn 1 := ⟨rfl, by decide, q_1936, q_122, by decide +kernel, by decide +kernel, by decide +kernel⟩
theorem cal_X12_crossOf {M : MI} {index : Nat} : Cal M index MX12_crossOf 2 := ⟨rfl, by decide, q_1888, q_122, by decide +kernel, by decide +kernel, by decide +kernel⟩
theorem cal_X12_does {M : MI} {index : Nat} : Cal M index MX12_does 2 := ⟨rfl, by decide, q_1877, q_122, by decide +kernel, by decide +kernel, by decide +kernel⟩
theorem cal_X12_draw {M : MI} {index : Nat} : Cal M index MX12_draw 1 := ⟨rfl, by decide, q_2147, q_122, by decide +kernel, by decide +kernel, by decide +kernel⟩
theorem cal_X12_ends {M : MI} {index : Nat} : Cal M index MX12_ends 0 := ⟨rfl, by decide, q_1810, q_122, by decide +kernel, by decide +kernel, by decide +kernel⟩
theorem cal_X12_even {M : MI} {index : Nat} : Cal M index MX12_even 0 := ⟨rfl, by decide, q_2078, q_122, by decide +kernel, by decide +kernel, by decide +kernel⟩
theorem cal_X12_fair {M : MI} {index : Nat} : Cal M index MX12_fair 1 := ⟨rfl, by decide, q_2070, q_122, by decide +kernel, by decide +kernel, by decide +kernel⟩
theorem cal_X12_fault {M : MI} {index : Nat} : Cal M index MX12_fault 0 := ⟨rfl, by decide, q_1854, q_122, by decide +kernel, by decide +kernel, by decide +kernel⟩
theorem cal_X12_feed {M : MI} {index : Nat} : Cal M index MX12_feed 5 := ⟨rfl, by decide, q_1734, q_122, by decide +kernel, by decide +kernel, by decide +kernel⟩
theorem cal_X12_gets {M : MI} {index : Nat} : Cal M index MX12_gets 3 := ⟨rfl, by decide, q_2131, q_122, by decide +kernel, by decide +kernel, by decide +kernel⟩
theorem cal_X12_getsBy {M : MI} {index : Nat} : Cal M index MX12_getsBy 3 := ⟨rfl, by decide, q_2127, q_122, by decide +kernel, by decide +kernel, by decide +kernel⟩
theorem cal_X12_goes {M : MI} {index : Nat} : Cal M index MX12_goes 2 := ⟨rfl, by decide, q_1873, q_122, by decide +kernel, by decide +kernel, by decide +kernel⟩
theorem cal_X12_has {M : MI} {index : Nat} : Cal M index MX12_has 2 := ⟨rfl, by decide, q_2022, q_122, by decide +kernel, by decide +kernel, by decide +kernel⟩
theorem cal_X12_heat {M : MI} {index : Nat} : Cal M index MX12_heat 2 := ⟨rfl, by decide, q_2007, q_122, by decide +kernel, by decide +kernel, by decide +kernel⟩
theorem cal_X12_houseOf {M : MI} {index : Nat} : Cal M index MX12_houseOf 3 := ⟨rfl, by decide, q_1979, q_122, by decide +kernel, by decide +kernel, by decide +kernel⟩
theorem cal_X12_howNow {M : MI} {index : Nat} : Cal M index MX12_howNow 1 := ⟨rfl, by decide, q_1964, q_122, by decide +kernel, by decide +kernel, by decide +kernel⟩
theorem cal_X12_image {M : MI} {index : Nat} : Cal M index MX12_image 0 := ⟨rfl, by decide, q_2156, q_122, by decide +kernel, by decide +kernel, by decide +kernel⟩
theorem cal_X12_in {M : MI} {index : Nat} : Cal M index MX12_in 3 := ⟨rfl, by decide, q_1741, q_122, by decide +kernel, by decide +kernel, by decide +kernel⟩
theorem cal_X12_isBid {M : MI} {index : Nat} : Cal M index MX12_isBid 4 := ⟨rfl, by decide, q_2124, q_122, by decide +kernel, by decide +kernel, by decide +kernel⟩
theorem cal_X12_isCorner {M : MI} {index : Nat} : Cal M index MX12_isCorner 1 := ⟨rfl, by decide, q_2046, q_122, by decide +kernel, by decide +kernel, by decide +kernel⟩
theorem cal_X12_isDigit {M : MI} {index : Nat} : Cal M index MX12_isDigit 1 := ⟨rfl, by decide, q_1797, q_122, by decide +kernel, by decide +kernel, by decide +kernel⟩
theorem cal_X12_isFree {M : MI} {index : Nat} : Cal M index MX12_isFree 1 := ⟨rfl, by decide, q_2015, q_122, by decide +kernel, by decide +kernel, by decide +kernel⟩
theorem cal_X12_isPosted {M : MI} {index : Nat} : Cal M index MX12_isPosted 2 := ⟨rfl, by decide, q_2090, q_122, by decide +kernel, by decide +kernel, by decide +kernel⟩
theorem cal_X12_isSmall {M : MI} {index : Nat} : Cal M index MX12_isSmall 1 := ⟨rfl, by decide, q_1776, q_122, by decide +kernel, by decide +kernel, by decide +kernel⟩
theorem cal_X12_isStable {M : MI} {index : Nat} : Cal M index MX12_isStable 0 := ⟨rfl, by decide, q_2011, q_122, by decide +kernel, by decide +kernel, by decide +kernel⟩
theorem cal_X12_isStreet {M : MI} {index : Nat} : Cal M index MX12_isStreet 1 := ⟨rfl, by decide, q_1948, q_122, by decide +kernel, by decide +kernel, by decide +kernel⟩
theorem cal_X12_isTempted {M : MI} {index : Nat} : Cal M index MX12_isTempted 3 := ⟨rfl, by decide, q_2019, q_122, by decide +kernel, by decide +kernel, by decide +kernel⟩
theorem cal_X12_isWord {M : MI} {index : Nat} : Cal M index MX12_isWord 7 := ⟨rfl, by decide, q_1769, q_122, by decide +kernel, by decide +kernel, by decide +kernel⟩
theorem cal_X12_kindHere {M : MI} {index : Nat} : Cal M index MX12_kindHere 0 := ⟨rfl, by decide, q_1765, q_122, by decide +kernel, by decide +kernel, by decide +kernel⟩
theorem cal_X12_knownHere {M : MI} {index : Nat} : Cal M index MX12_knownHere 0 := ⟨rfl, by decide, q_1838, q_122, by decide +kernel, by decide +kernel, by decide +kernel⟩
theorem cal_X12_lane {M : MI} {index : Nat} : Cal M index MX12_lane 0 := ⟨rfl, by decide, q_2105, q_122, by decide +kernel, by decide +kernel, by decide +kernel⟩
theorem cal_X12_laneIn {M : MI} {index : Nat} : Cal M index MX12_laneIn 0 := ⟨rfl, by decide, q_2109, q_122, by decide +kernel, by decide +kernel, by decide +kernel⟩
theorem cal_X12_laneX {M : MI} {index : Nat} : Cal M index MX12_laneX 1 := ⟨rfl, by decide, q_2113, q_122, by decide +kernel, by decide +kernel, by decide +kernel⟩
theorem cal_X12_last {M : MI} {index : Nat} : Cal M index MX12_last 1 := ⟨rfl, by decide, q_1983, q_122, by decide +kernel, by decide +kernel, by decide +kernel⟩
theorem cal_X12_lastOf {M : MI} {index : Nat} : Cal M index MX12_lastOf 1 := ⟨rfl, by decide, q_1987, q_122, by decide +kernel, by decide +kernel, by decide +kernel⟩
theorem cal_X12_law {M : MI} {index : Nat} : Cal M index MX12_law 1 := ⟨rfl, by decide, q_1814, q_122, by decide +kernel, by decide +kernel, by decide +kernel⟩
theorem cal_X12_lays {M : MI} {index : Nat} : Cal M index MX12_lays 3 := ⟨rfl, by decide, q_1563, q_122, by decide +kernel, by decide +kernel, by decide +kernel⟩
theorem cal_X12_laysMatches {M : MI} {index : Nat} : Cal M index MX12_laysMatches 0 := ⟨rfl, by decide, q_1999, q_122, by decide +kernel, by decide +kernel, by decide +kernel⟩
theorem cal_X12_laysWays {M : MI} {index : Nat} : Cal M index MX12_laysWays 1 := ⟨rfl, by decide, q_2050, q_122, by decide +kernel, by decide +kernel, by decide +kernel⟩
theorem cal_X12_lengthOf {M : MI} {index : Nat} : Cal M index MX12_lengthOf 1 := ⟨rfl, by decide, q_1892, q_122, by decide +kernel, by decide +kernel, by decide +kernel⟩
theorem cal_X12_less {M : MI} {index : Nat} : Cal M index MX12_less 2 := ⟨rfl, by decide, q_1905, q_122, by decide +kernel, by decide +kernel, by decide +kernel⟩
theorem cal_X12_letter {M : MI} {index : Nat} : Cal M index MX12_letter 2 := ⟨rfl, by decide, q_1971, q_122, by decide +kernel, by decide +kernel, by decide +kernel⟩
theorem cal_X12_letterTo {M : MI} {index : Nat} : Cal M index MX12_letterTo 2 := ⟨rfl, by decide, q_1975, q_122, by decide +kernel, by decide +kernel, by decide +kernel⟩
theorem cal_X12_likes {M : MI} {index : Nat} : Cal M index MX12_likes 2 := ⟨rfl, by decide, q_1952, q_122, by decide +kernel, by decide +kernel, by decide +kernel⟩
theorem cal_X12_look {M : MI} {index : Nat} : Cal M index MX12_look 2 := ⟨rfl, by decide, q_2097, q_122, by decide +kernel, by decide +kernel, by decide +kernel⟩
theorem cal_X12_marries {M : MI} {index : Nat} : Cal M index MX12_marries 3 := ⟨rfl, by decide, q_1911, q_122, by decide +kernel, by decide +kernel, by decide +kernel⟩
theorem cal_X12_matches {M : MI} {index : Nat} : Cal M index MX12_matches 2 := ⟨rfl, by decide, q_2003, q_122, by decide +kernel, by decide +kernel, by decide +kernel⟩
theorem cal_X12_mateOf {M : MI} {index : Nat} : Cal M index MX12_mateOf 2 := ⟨rfl, by decide, q_1880, q_122, by decide +kernel, by decide +kernel, by decide +kernel⟩
theorem cal_X12_mates {M : MI} {index : Nat} : Cal M index MX12_mates 2 := ⟨rfl, by decide, q_2082, q_122, by decide +kernel, by decide +kernel, by decide +kernel⟩
theorem cal_X12_matesOf {M : MI} {index : Nat} : Cal M index MX12_matesOf 2 := ⟨rfl, by decide, q_2086, q_122, by decide +kernel, by decide +kernel, by decide +kernel⟩
theorem cal_X12_missing {M : MI} {index : Nat} : Cal M index MX12_missing 1 := ⟨rfl, by decide, q_1991, q_122, by decide +kernel, by decide +kernel, by decide +kernel⟩
theorem cal_X12_more {M : MI} {index : Nat} : Cal M index MX12_more 2 := ⟨rfl, by decide, q_1908, q_122, by decide +kernel, by decide +kernel, by decide +kernel⟩
theorem cal_X12_notes {M : MI} {index : Nat} : Cal M index MX12_notes 2 := ⟨rfl, by decide, q_1834, q_122, by decide +kernel, by decide +kernel, by decide +kernel⟩
theorem cal_X12_number {M : MI} {index : Nat} : Cal M index MX12_number 2 := ⟨rfl, by decide, q_1960, q_122, by decide +kernel, by decide +kernel, by decide +kernel⟩
theorem cal_X12_numberBy {M : MI} {index : Nat} : Cal M index MX12_numberBy 2 := ⟨rfl, by decide, q_1967, q_122, by decide +kernel, by decide +kernel, by decide +kernel⟩
theorem cal_X12_numberHere {M : MI} {index : Nat} : Cal M index MX12_numberHere 2 := ⟨rfl, by decide, q_1794, q_122, by decide +kernel, by decide +kernel, by decide +kernel⟩
theorem cal_X12_one {M : MI} {index : Nat} : Cal M index MX12_one 0 := ⟨rfl, by decide, q_1826, q_122, by decide +kernel, by decide +kernel, by decide +kernel⟩
theorem cal_X12_ones {M : MI} {index : Nat} : Cal M index MX12_ones 1 := ⟨rfl, by decide, q_2093, q_122, by decide +kernel, by decide +kernel, by decide +kernel⟩
theorem cal_X12_opens {M : MI} {index : Nat} : Cal M index MX12_opens 0 := ⟨rfl, by decide, q_1830, q_122, by decide +kernel, by decide +kernel, by decide +kernel⟩
theorem cal_X12_otherHere {M : MI} {index : Nat} : Cal M index MX12_otherHere 2 := ⟨rfl, by decide, q_1802, q_122, by decide +kernel, by decide +kernel, by decide +kernel⟩
theorem cal_X12_parts {M : MI} {index : Nat} : Cal M index MX12_parts 2 := ⟨rfl, by decide, q_1914, q_122, by decide +kernel, by decide +kernel, by decide +kernel⟩
theorem cal_X12_post {M : MI} {index : Nat} : Cal M index MX12_post 1 := ⟨rfl, by decide, q_1850, q_122, by decide +kernel, by decide +kernel, by decide +kernel⟩
theorem cal_X12_product {M : MI} {index : Nat} : Cal M index MX12_product 0 := ⟨rfl, by decide, q_1822, q_122, by decide +kernel, by decide +kernel, by decide +kernel⟩
theorem cal_X12_puts {M : MI} {index : Nat} : Cal M index MX12_puts 3 := ⟨rfl, by decide, q_2164, q_122, by decide +kernel, by decide +kernel, by decide +kernel⟩
theorem cal_X12_putsAll {M : MI} {index : Nat} : Cal M index MX12_putsAll 2 := ⟨rfl, by decide, q_2160, q_122, by decide +kernel, by decide +kernel, by decide +kernel⟩
theorem cal_X12_quarrels {M : MI} {index : Nat} : Cal M index MX12_quarrels 2 := ⟨rfl, by decide, q_1917, q_122, by decide +kernel, by decide +kernel, by decide +kernel⟩
theorem cal_X12_reach {M : MI} {index : Nat} : Cal M index MX12_reach 1 := ⟨rfl, by decide, q_2054, q_122, by decide +kernel, by decide +kernel, by decide +kernel⟩
theorem cal_X12_readsStep {M : MI} {index : Nat} : Cal M index MX12_readsStep 0 := ⟨rfl, by decide, q_1862, q_122, by decide +kernel, by decide +kernel, by decide +kernel⟩
theorem cal_X12_repaves {M : MI} {index : Nat} : Cal M index MX12_repaves 2 := ⟨rfl, by decide, q_1920, q_122, by decide +kernel, by decide +kernel, by decide +kernel⟩
theorem cal_X12_restore {M : MI} {index : Nat} : Cal M index MX12_restore 0 := ⟨rfl, by decide, q_2168, q_122, by decide +kernel, by decide +kernel, by decide +kernel⟩
theorem cal_X12_right {M : MI} {index : Nat} : Cal M index MX12_right 1 := ⟨rfl, by decide, q_2101, q_122, by decide +kernel, by decide +kernel, by decide +kernel⟩
theorem cal_X12_round {M : MI} {index : Nat} : Cal M index MX12_round 1 := ⟨rfl, by decide, q_2058, q_122, by decide +kernel, by decide +kernel, by decide +kernel⟩
theorem cal_X12_seven {M : MI} {index : Nat} : Cal M index MX12_seven 7 := ⟨rfl, by decide, q_1782, q_122, by decide +kernel, by decide +kernel, by decide +kernel⟩
theorem cal_X12_sign {M : MI} {index : Nat} : Cal M index MX12_sign 1 := ⟨rfl, by decide, q_1806, q_122, by decide +kernel, by decide +kernel, by decide +kernel⟩
theorem cal_X12_skipWord {M : MI} {index : Nat} : Cal M index MX12_skipWord 0 := ⟨rfl, by decide, q_1790, q_122, by decide +kernel, by decide +kernel, by decide +kernel⟩
theorem cal_X12_span {M : MI} {index : Nat} : Cal M index MX12_span 6 := ⟨rfl, by decide, q_2152, q_122, by decide +kernel, by decide +kernel, by decide +kernel⟩
theorem cal_X12_stable {M : MI} {index : Nat} : Cal M index MX12_stable 0 := ⟨rfl, by decide, q_1995, q_122, by decide +kernel, by decide +kernel, by decide +kernel⟩
theorem cal_X12_stableFor {M : MI} {index : Nat} : Cal M index MX12_stableFor 1 := ⟨rfl, by decide, q_2026, q_122, by decide +kernel, by decide +kernel, by decide +kernel⟩
theorem cal_X12_stands {M : MI} {index : Nat} : Cal M index MX12_stands 0 := ⟨rfl, by decide, q_1560, q_122, by decide +kernel, by decide +kernel, by decide +kernel⟩
theorem cal_X12_starts {M : MI} {index : Nat} : Cal M index MX12_starts 1 := ⟨rfl, by decide, q_1749, q_122, by decide +kernel, by decide +kernel, by decide +kernel⟩
theorem cal_X12_status {M : MI} {index : Nat} : Cal M index MX12_status 1 := ⟨rfl, by decide, q_2172, q_122, by decide +kernel, by decide +kernel, by decide +kernel⟩
theorem cal_X12_stepHere {M : MI} {index : Nat} : Cal M index MX12_stepHere 0 := ⟨rfl, by decide, q_1866, q_122, by decide +kernel, by decide +kernel, by decide +kernel⟩
theorem cal_X12_stop {M : MI} {index : Nat} : Cal M index MX12_stop 0 := ⟨rfl, by decide, q_2117, q_122, by decide +kernel, by decide +kernel, by decide +kernel⟩
theorem cal_X12_street {M : MI} {index : Nat} : Cal M index MX12_street 2 := ⟨rfl, by decide, q_1944, q_122, by decide +kernel, by decide +kernel, by decide +kernel⟩
theorem cal_X12_suitors {M : MI} {index : Nat} : Cal M index MX12_suitors 4 := ⟨rfl, by decide, q_2121, q_122, by decide +kernel, by decide +kernel, by decide +kernel⟩
theorem cal_X12_sum {M : MI} {index : Nat} : Cal M index MX12_sum 0 := ⟨rfl, by decide, q_1818, q_122, by decide +kernel, by decide +kernel, by decide +kernel⟩
theorem cal_X12_sumOf {M : MI} {index : Nat} : Cal M index MX12_sumOf 2 := ⟨rfl, by decide, q_1940, q_122, by decide +kernel, by decide +kernel, by decide +kernel⟩
theorem cal_X12_takes {M : MI} {index : Nat} : Cal M index MX12_takes 7 := ⟨rfl, by decide, q_1842, q_122, by decide +kernel, by decide +kernel, by decide +kernel⟩
theorem cal_X12_takesSign {M : MI} {index : Nat} : Cal M index MX12_takesSign 1 := ⟨rfl, by decide, q_1846, q_122, by decide +kernel, by decide +kernel, by decide +kernel⟩
theorem cal_X12_tellsNothing {M : MI} {index : Nat} : Cal M index MX12_tellsNothing 0 := ⟨rfl, by decide, q_1556, q_122, by decide +kernel, by decide +kernel, by decide +kernel⟩
theorem cal_X12_tempted {M : MI} {index : Nat} : Cal M index MX12_tempted 0 := ⟨rfl, by decide, q_2038, q_122, by decide +kernel, by decide +kernel, by decide +kernel⟩
theorem cal_X12_thrown {M : MI} {index : Nat} : Cal M index MX12_thrown 0 := ⟨rfl, by decide, q_1730, q_122, by decide +kernel, by decide +kernel, by decide +kernel⟩
theorem cal_X12_told {M : MI} {index : Nat} : Cal M index MX12_told 1 := ⟨rfl, by decide, q_1932, q_122, by decide +kernel, by decide +kernel, by decide +kernel⟩
theorem cal_X12_undo {M : MI} {index : Nat} : Cal M index MX12_undo 0 := ⟨rfl, by decide, q_1928, q_122, by decide +kernel, by decide +kernel, by decide +kernel⟩
theorem cal_X12_walksOn {M : MI} {index : Nat} : Cal M index MX12_walksOn 3 := ⟨rfl, by decide, q_2062, q_122, by decide +kernel, by decide +kernel, by decide +kernel⟩
theorem cal_X12_way {M : MI} {index : Nat} : Cal M index MX12_way 2 := ⟨rfl, by decide, q_2042, q_122, by decide +kernel, by decide +kernel, by decide +kernel⟩
theorem cal_X12_wordHere {M : MI} {index : Nat} : Cal M index MX12_wordHere 0 := ⟨rfl, by decide, q_1773, q_122, by decide +kernel, by decide +kernel, by decide +kernel⟩
theorem cal_X12_work {M : MI} {index : Nat} : Cal M index MX12_work 1 := ⟨rfl, by decide, q_1858, q_122, by decide +kernel, by decide +kernel, by decide +kernel⟩
theorem cal_X12_worthOf {M : MI} {index : Nat} : Cal M index MX12_worthOf 2 := ⟨rfl, by decide, q_2074, q_122, by decide +kernel, by decide +kernel, by decide +kernel⟩
theorem cal_X12_wrong {M : MI} {index : Nat} : Cal M index MX12_wrong 2 := ⟨rfl, by decide, q_1786, q_122, by decide +kernel, by decide +kernel, by decide +kernel⟩
theorem cal_X12_yearEnds {M : MI} {index : Nat} : Cal M index MX12_yearEnds 1 := ⟨rfl, by decide, q_1924, q_122, by decide +kernel, by decide +kernel, by decide +kernel⟩
theorem cal_J6_bitCount_0f7a4 {M : MI} {index : Nat} : Cal M index MJ6_bitCount_0f7a4 1 := ⟨rfl, by decide, q_1439, q_134, by decide +kernel, by decide +kernel, by decide +kernel⟩
theorem cal_J0_charAt_5068e {M : MI} {index : Nat} : Cal M index MJ0_charAt_5068e 1 := ⟨rfl, by decide, q_839, q_128, by decide +kernel, by decide +kernel, by decide +kernel⟩
theorem cal_J0_checkIndex_df160 {M : MI} {index : Nat} : Cal M index MJ0_checkIndex_df160 2 := ⟨rfl, by decide, q_849, q_128, by decide +kernel, by decide +kernel, by decide +kernel⟩
theorem cal_J0_coder_7d493 {M : MI} {index : Nat} : Cal M index MJ0_coder_7d493 0 := ⟨rfl, by decide, q_833, q_128, by decide +kernel, by decide +kernel, by decide +kernel⟩
theorem cal_J0_isLatin1_aae02 {M : MI} {index : Nat} : Cal M index MJ0_isLatin1_aae02 0 := ⟨rfl, by decide, q_843, q_128, by decide +kernel, by decide +kernel, by decide +kernel⟩
theorem cal_J0_length_8abf5 {M : MI} {index : Nat} : Cal M index MJ0_length_8abf5 0 := ⟨rfl, by decide, q_829, q_128, by decide +kernel, by decide +kernel, by decide +kernel⟩
theorem cal_J1_charAt_3b067 {M : MI} {index : Nat} : Cal M index MJ1_charAt_3b067 2 := ⟨rfl, by decide, q_846, q_129, by decide +kernel, by decide +kernel, by decide +kernel⟩
theorem cal_J3_checkIndex_8e157 {M : MI} {index : Nat} : Cal M index MJ3_checkIndex_8e157 3 := ⟨rfl, by decide, q_854, q_130, by decide +kernel, by decide +kernel, by decide +kernel⟩
