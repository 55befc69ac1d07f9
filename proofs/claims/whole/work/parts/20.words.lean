def o_bad : ms_T := fun _ _ _ _ _ _ _ => False
theorem s_bad {G : ms_G} {Q : ms_Q} {y : ms_Y} {d pc pc' : Nat} : ms_Snd G Q y d pc pc' o_bad := fun _ _ _ _ _ _ _ _ h => False.elim h
abbrev mX0_init : ms_Y := (yX0_init, cX0_init, 1, none)
abbrev mX0_make : ms_Y := (yX0_make, cX0_make, 3, some .boolean)
abbrev mX0_goBinary : ms_Y := (yX0_goBinary, cX0_goBinary, 4, none)
abbrev mX0_goRight : ms_Y := (yX0_goRight, cX0_goRight, 4, none)
abbrev mX0_goFactor : ms_Y := (yX0_goFactor, cX0_goFactor, 5, none)
abbrev mX0_leastPrimeOf : ms_Y := (yX0_leastPrimeOf, cX0_leastPrimeOf, 2, some .int)
abbrev mX0_goThrees : ms_Y := (yX0_goThrees, cX0_goThrees, 4, none)
abbrev mX0_put : ms_Y := (yX0_put, cX0_put, 2, none)
abbrev mX0_eachIsOfTheOneAhead : ms_Y := (yX0_eachIsOfTheOneAhead, cX0_eachIsOfTheOneAhead, 2, some .boolean)
abbrev mX0_standsAheadOf : ms_Y := (yX0_standsAheadOf, cX0_standsAheadOf, 4, some .boolean)
abbrev mX1_init : ms_Y := (yX1_init, cX1_init, 1, none)
abbrev mX1_tell : ms_Y := (yX1_tell, cX1_tell, 5, none)
abbrev mX1_build : ms_Y := (yX1_build, cX1_build, 4, some .boolean)
abbrev mX1_descend : ms_Y := (yX1_descend, cX1_descend, 6, some .boolean)
abbrev mX1_greaterPart : ms_Y := (yX1_greaterPart, cX1_greaterPart, 2, some .int)
abbrev mX1_put : ms_Y := (yX1_put, cX1_put, 4, some .boolean)
abbrev mX1_placeOf : ms_Y := (yX1_placeOf, cX1_placeOf, 3, some .int)
abbrev mX1_write : ms_Y := (yX1_write, cX1_write, 4, none)
abbrev mX2_init : ms_Y := (yX2_init, cX2_init, 1, none)
abbrev mX2_measure : ms_Y := (yX2_measure, cX2_measure, 3, none)
abbrev mX2_measureBase : ms_Y := (yX2_measureBase, cX2_measureBase, 3, none)
abbrev mX2_measureStep : ms_Y := (yX2_measureStep, cX2_measureStep, 5, none)
abbrev mX2_of : ms_Y := (yX2_of, cX2_of, 3, some .long)
abbrev mX2_fit : ms_Y := (yX2_fit, cX2_fit, 4, some .boolean)
abbrev mX2_firstAlike : ms_Y := (yX2_firstAlike, cX2_firstAlike, 3, some .int)
abbrev mX2_alike : ms_Y := (yX2_alike, cX2_alike, 4, some .boolean)
abbrev mX3_init : ms_Y := (yX3_init, cX3_init, 2, none)
abbrev mX3_remember : ms_Y := (yX3_remember, cX3_remember, 2, none)
abbrev mX3_takeBack : ms_Y := (yX3_takeBack, cX3_takeBack, 2, some .int)
abbrev mX4_init : ms_Y := (yX4_init, cX4_init, 1, none)
abbrev mX4_size : ms_Y := (yX4_size, cX4_size, 1, some .int)
abbrev mX4_has : ms_Y := (yX4_has, cX4_has, 2, some .boolean)
abbrev mX4_isBase : ms_Y := (yX4_isBase, cX4_isBase, 2, some .boolean)
abbrev mX4_begin : ms_Y := (yX4_begin, cX4_begin, 2, none)
abbrev mX4_append : ms_Y := (yX4_append, cX4_append, 4, some .int)
abbrev mX4_copyFrom : ms_Y := (yX4_copyFrom, cX4_copyFrom, 2, none)
abbrev mX4_kind : ms_Y := (yX4_kind, cX4_kind, 2, some .int)
abbrev mX4_stepsOfKind : ms_Y := (yX4_stepsOfKind, cX4_stepsOfKind, 4, some .int)
abbrev mX4_uses : ms_Y := (yX4_uses, cX4_uses, 4, some .int)
abbrev mX4_compact : ms_Y := (yX4_compact, cX4_compact, 6, some .int)
abbrev mX5_init : ms_Y := (yX5_init, cX5_init, 1, none)
abbrev mX5_seek : ms_Y := (yX5_seek, cX5_seek, 5, some .boolean)
abbrev mX5_visit : ms_Y := (yX5_visit, cX5_visit, 6, some .int)
abbrev mX6_init : ms_Y := (yX6_init, cX6_init, 1, none)
abbrev mX6_measureDepths : ms_Y := (yX6_measureDepths, cX6_measureDepths, 3, none)
abbrev mX6_greatestDepth : ms_Y := (yX6_greatestDepth, cX6_greatestDepth, 4, some .int)
abbrev mX6_markNeeded : ms_Y := (yX6_markNeeded, cX6_markNeeded, 3, none)
abbrev mX6_neededSteps : ms_Y := (yX6_neededSteps, cX6_neededSteps, 4, some .int)
abbrev mX7_init : ms_Y := (yX7_init, cX7_init, 1, none)
abbrev mX7_append : ms_Y := (yX7_append, cX7_append, 3, none)
abbrev mX8_init : ms_Y := (yX8_init, cX8_init, 1, none)
abbrev mX8_read : ms_Y := (yX8_read, cX8_read, 6, some .int)
abbrev mX8_readBases : ms_Y := (yX8_readBases, cX8_readBases, 3, some .int)
abbrev mX8_readWants : ms_Y := (yX8_readWants, cX8_readWants, 3, some .int)
abbrev mX8_readEnd : ms_Y := (yX8_readEnd, cX8_readEnd, 1, some .int)
abbrev mX8_readStatement : ms_Y := (yX8_readStatement, cX8_readStatement, 4, some .int)
abbrev mX8_readProduct : ms_Y := (yX8_readProduct, cX8_readProduct, 5, some .int)
abbrev mX8_readPower : ms_Y := (yX8_readPower, cX8_readPower, 8, some .int)
abbrev mX8_statementEndFault : ms_Y := (yX8_statementEndFault, cX8_statementEndFault, 2, some .int)
abbrev mX8_addStep : ms_Y := (yX8_addStep, cX8_addStep, 4, some .boolean)
abbrev mX8_giveName : ms_Y := (yX8_giveName, cX8_giveName, 2, some .int)
abbrev mX8_newNameFault : ms_Y := (yX8_newNameFault, cX8_newNameFault, 1, some .int)
abbrev mX8_knownNameFault : ms_Y := (yX8_knownNameFault, cX8_knownNameFault, 1, some .int)
abbrev mX8_nodeNamed : ms_Y := (yX8_nodeNamed, cX8_nodeNamed, 3, some .int)
abbrev mX8_isWord : ms_Y := (yX8_isWord, cX8_isWord, 2, some .boolean)
abbrev mX8_isName : ms_Y := (yX8_isName, cX8_isName, 1, some .boolean)
abbrev mX8_fault : ms_Y := (yX8_fault, cX8_fault, 2, some .int)
abbrev mX9_init : ms_Y := (yX9_init, cX9_init, 1, none)
abbrev mX9_begin : ms_Y := (yX9_begin, cX9_begin, 3, none)
abbrev mX9_advance : ms_Y := (yX9_advance, cX9_advance, 2, none)
abbrev mX9_takeRun : ms_Y := (yX9_takeRun, cX9_takeRun, 6, none)
abbrev mX10_init : ms_Y := (yX10_init, cX10_init, 1, none)
abbrev mX10_turn : ms_Y := (yX10_turn, cX10_turn, 4, some .boolean)
abbrev mX10_gatherWants : ms_Y := (yX10_gatherWants, cX10_gatherWants, 5, some .boolean)
abbrev mX10_gatherSteps : ms_Y := (yX10_gatherSteps, cX10_gatherSteps, 5, some .boolean)
abbrev mX10_join : ms_Y := (yX10_join, cX10_join, 4, some .boolean)
abbrev mX10_wantBases : ms_Y := (yX10_wantBases, cX10_wantBases, 4, some .boolean)
abbrev mX11_init : ms_Y := (yX11_init, cX11_init, 2, none)
abbrev mX11_feed : ms_Y := (yX11_feed, cX11_feed, 6, some .int)
abbrev mX11_text : ms_Y := (yX11_text, cX11_text, 3, some .int)
abbrev mX11_count : ms_Y := (yX11_count, cX11_count, 2, some .int)
abbrev mX11_node : ms_Y := (yX11_node, cX11_node, 3, some .int)
abbrev mX11_exponent : ms_Y := (yX11_exponent, cX11_exponent, 3, some .long)
abbrev mX11_wanted : ms_Y := (yX11_wanted, cX11_wanted, 2, some .int)
abbrev mX11_run : ms_Y := (yX11_run, cX11_run, 10, some .int)
abbrev mX11_add : ms_Y := (yX11_add, cX11_add, 3, some .int)
abbrev mX11_want : ms_Y := (yX11_want, cX11_want, 3, some .int)
abbrev mX11_prune : ms_Y := (yX11_prune, cX11_prune, 2, some .int)
abbrev mX11_fold : ms_Y := (yX11_fold, cX11_fold, 2, some .int)
abbrev mX11_dual : ms_Y := (yX11_dual, cX11_dual, 1, some .int)
abbrev mX11_dualLong : ms_Y := (yX11_dualLong, cX11_dualLong, 1, some .int)
abbrev mX11_sequence : ms_Y := (yX11_sequence, cX11_sequence, 6, some .int)
abbrev mX11_vector : ms_Y := (yX11_vector, cX11_vector, 6, some .int)
abbrev mX11_save : ms_Y := (yX11_save, cX11_save, 2, some .int)
abbrev mX11_load : ms_Y := (yX11_load, cX11_load, 2, some .int)
abbrev mX11_same : ms_Y := (yX11_same, cX11_same, 2, some .int)
abbrev mX11_undo : ms_Y := (yX11_undo, cX11_undo, 1, some .int)
abbrev mX11_method : ms_Y := (yX11_method, cX11_method, 3, some .int)
abbrev mX11_chain : ms_Y := (yX11_chain, cX11_chain, 4, some .int)
abbrev mX11_best : ms_Y := (yX11_best, cX11_best, 5, some .int)
abbrev mX11_star : ms_Y := (yX11_star, cX11_star, 3, some .int)
abbrev mX11_lower : ms_Y := (yX11_lower, cX11_lower, 3, some .int)
abbrev mX11_search : ms_Y := (yX11_search, cX11_search, 3, some .int)
abbrev mX11_found : ms_Y := (yX11_found, cX11_found, 2, some .int)
abbrev mX11_isChain : ms_Y := (yX11_isChain, cX11_isChain, 9, some .int)
abbrev mX11_adopt : ms_Y := (yX11_adopt, cX11_adopt, 2, some .int)
abbrev mX11_dropSteps : ms_Y := (yX11_dropSteps, cX11_dropSteps, 2, some .int)
abbrev mX11_holds : ms_Y := (yX11_holds, cX11_holds, 2, some .boolean)
abbrev mX11_filledShelves : ms_Y := (yX11_filledShelves, cX11_filledShelves, 3, some .int)
abbrev mX11_comesToTheSame : ms_Y := (yX11_comesToTheSame, cX11_comesToTheSame, 6, some .boolean)
abbrev mX11_isSumOfTwoAhead : ms_Y := (yX11_isSumOfTwoAhead, cX11_isSumOfTwoAhead, 4, some .boolean)
abbrev mX11_highestBitOf : ms_Y := (yX11_highestBitOf, cX11_highestBitOf, 1, some .int)
abbrev mX11_bound : ms_Y := (yX11_bound, cX11_bound, 4, some .int)
abbrev mX12_thrown : ms_Y := (yX12_thrown, cX12_thrown, 1, some .int)
abbrev mX12_within : ms_Y := (yX12_within, cX12_within, 6, some .boolean)
abbrev mX12_copies : ms_Y := (yX12_copies, cX12_copies, 5, none)
abbrev mX12_keeps : ms_Y := (yX12_keeps, cX12_keeps, 2, none)
abbrev mX12_becomes : ms_Y := (yX12_becomes, cX12_becomes, 1, some .int)
abbrev mX12_nodes : ms_Y := (yX12_nodes, cX12_nodes, 1, some .int)
abbrev mX12_leftOf : ms_Y := (yX12_leftOf, cX12_leftOf, 2, some .int)
abbrev mX12_rightOf : ms_Y := (yX12_rightOf, cX12_rightOf, 2, some .int)
abbrev mX12_puts : ms_Y := (yX12_puts, cX12_puts, 3, some .int)
abbrev mX12_clears : ms_Y := (yX12_clears, cX12_clears, 2, none)
abbrev mX12_powersOf : ms_Y := (yX12_powersOf, cX12_powersOf, 4, none)
abbrev mX12_areHuge : ms_Y := (yX12_areHuge, cX12_areHuge, 4, some .boolean)
abbrev mX12_areAlike : ms_Y := (yX12_areAlike, cX12_areAlike, 5, some .boolean)
abbrev mX12_firstAlike : ms_Y := (yX12_firstAlike, cX12_firstAlike, 4, some .int)
abbrev mX12_feed : ms_Y := (yX12_feed, cX12_feed, 6, some .int)
abbrev mX12_four : ms_Y := (yX12_four, cX12_four, 3, none)
abbrev mX12_byteAt : ms_Y := (yX12_byteAt, cX12_byteAt, 2, some .int)
abbrev mX12_go : ms_Y := (yX12_go, cX12_go, 2, none)
abbrev mX12_bad : ms_Y := (yX12_bad, cX12_bad, 2, some .boolean)
abbrev mX12_is : ms_Y := (yX12_is, cX12_is, 2, some .boolean)
abbrev mX12_isSign : ms_Y := (yX12_isSign, cX12_isSign, 2, some .boolean)
abbrev mX12_isName : ms_Y := (yX12_isName, cX12_isName, 1, some .boolean)
abbrev mX12_find : ms_Y := (yX12_find, cX12_find, 3, some .int)
abbrev mX12_gives : ms_Y := (yX12_gives, cX12_gives, 3, none)
abbrev mX12_baseLine : ms_Y := (yX12_baseLine, cX12_baseLine, 1, some .boolean)
abbrev mX12_wantLine : ms_Y := (yX12_wantLine, cX12_wantLine, 2, some .boolean)
abbrev mX12_known : ms_Y := (yX12_known, cX12_known, 1, some .boolean)
abbrev mX12_adds : ms_Y := (yX12_adds, cX12_adds, 3, some .int)
abbrev mX12_highest : ms_Y := (yX12_highest, cX12_highest, 3, some .int)
abbrev mX12_power : ms_Y := (yX12_power, cX12_power, 4, some .boolean)
abbrev mX12_statement : ms_Y := (yX12_statement, cX12_statement, 4, some .boolean)
abbrev mX12_init : ms_Y := (yX12_init, cX12_init, 1, none)
abbrev mX12_text : ms_Y := (yX12_text, cX12_text, 3, some .int)
abbrev mX12_needs : ms_Y := (yX12_needs, cX12_needs, 2, none)
abbrev mX12_depthsAll : ms_Y := (yX12_depthsAll, cX12_depthsAll, 3, some .int)
abbrev mX12_sortOf : ms_Y := (yX12_sortOf, cX12_sortOf, 4, some .int)
abbrev mX12_sorts : ms_Y := (yX12_sorts, cX12_sorts, 4, some .int)
abbrev mX12_isNode : ms_Y := (yX12_isNode, cX12_isNode, 2, some .boolean)
abbrev mX12_count : ms_Y := (yX12_count, cX12_count, 4, some .int)
abbrev mX12_node : ms_Y := (yX12_node, cX12_node, 5, some .int)
abbrev mX12_exponent : ms_Y := (yX12_exponent, cX12_exponent, 3, some .long)
abbrev mX12_wanted : ms_Y := (yX12_wanted, cX12_wanted, 2, some .int)
abbrev mX12_run : ms_Y := (yX12_run, cX12_run, 9, some .int)
abbrev mX12_add : ms_Y := (yX12_add, cX12_add, 4, some .int)
abbrev mX12_want : ms_Y := (yX12_want, cX12_want, 3, some .int)
abbrev mX12_squeezes : ms_Y := (yX12_squeezes, cX12_squeezes, 6, some .int)
abbrev mX12_prune : ms_Y := (yX12_prune, cX12_prune, 1, some .int)
abbrev mX12_fold : ms_Y := (yX12_fold, cX12_fold, 1, some .int)
abbrev mX12_joins : ms_Y := (yX12_joins, cX12_joins, 3, some .boolean)
abbrev mX12_turns : ms_Y := (yX12_turns, cX12_turns, 5, some .boolean)
abbrev mX12_dual : ms_Y := (yX12_dual, cX12_dual, 1, some .int)
abbrev mX12_dualLong : ms_Y := (yX12_dualLong, cX12_dualLong, 1, some .int)
abbrev mX12_ofBoth : ms_Y := (yX12_ofBoth, cX12_ofBoth, 4, none)
abbrev mX12_sequenced : ms_Y := (yX12_sequenced, cX12_sequenced, 9, some .boolean)
abbrev mX12_sequence : ms_Y := (yX12_sequence, cX12_sequence, 6, some .int)
abbrev mX12_vector : ms_Y := (yX12_vector, cX12_vector, 6, some .int)
abbrev mX12_isShelf : ms_Y := (yX12_isShelf, cX12_isShelf, 1, some .boolean)
abbrev mX12_save : ms_Y := (yX12_save, cX12_save, 2, some .int)
abbrev mX12_load : ms_Y := (yX12_load, cX12_load, 2, some .int)
abbrev mX12_same : ms_Y := (yX12_same, cX12_same, 4, some .int)
abbrev mX12_undo : ms_Y := (yX12_undo, cX12_undo, 1, some .int)
abbrev mX12_marksBinary : ms_Y := (yX12_marksBinary, cX12_marksBinary, 4, none)
abbrev mX12_marksRight : ms_Y := (yX12_marksRight, cX12_marksRight, 4, none)
abbrev mX12_leastPrime : ms_Y := (yX12_leastPrime, cX12_leastPrime, 2, some .int)
abbrev mX12_marksFactor : ms_Y := (yX12_marksFactor, cX12_marksFactor, 4, none)
abbrev mX12_marksThrees : ms_Y := (yX12_marksThrees, cX12_marksThrees, 5, none)
abbrev mX12_lays : ms_Y := (yX12_lays, cX12_lays, 4, some .boolean)
abbrev mX12_method : ms_Y := (yX12_method, cX12_method, 3, some .int)
abbrev mX12_chain : ms_Y := (yX12_chain, cX12_chain, 4, some .int)
abbrev mX12_best : ms_Y := (yX12_best, cX12_best, 5, some .int)
abbrev mX12_star : ms_Y := (yX12_star, cX12_star, 7, some .int)
abbrev mX12_lowerOf : ms_Y := (yX12_lowerOf, cX12_lowerOf, 6, some .int)
abbrev mX12_lower : ms_Y := (yX12_lower, cX12_lower, 3, some .int)
abbrev mX12_goes : ms_Y := (yX12_goes, cX12_goes, 5, some .int)
abbrev mX12_search : ms_Y := (yX12_search, cX12_search, 4, some .int)
abbrev mX12_found : ms_Y := (yX12_found, cX12_found, 2, some .int)
abbrev mX12_isChain : ms_Y := (yX12_isChain, cX12_isChain, 12, some .int)
abbrev mJ6_numberOfLeadingZeros_0f7a4 : ms_Y := (yJ6_numberOfLeadingZeros_0f7a4, cJ6_numberOfLeadingZeros_0f7a4, 2, some .int)
abbrev mJ6_bitCount_0f7a4 : ms_Y := (yJ6_bitCount_0f7a4, cJ6_bitCount_0f7a4, 1, some .int)
abbrev mJ9_floorMod_7cf53 : ms_Y := (yJ9_floorMod_7cf53, cJ9_floorMod_7cf53, 3, some .int)
abbrev mJ9_max_7cf53 : ms_Y := (yJ9_max_7cf53, cJ9_max_7cf53, 2, some .int)
abbrev mJ9_min_7cf53 : ms_Y := (yJ9_min_7cf53, cJ9_min_7cf53, 2, some .int)
set_option maxRecDepth 100000 in
theorem kw_0 : Cond.selects RX9 yX9_takeRun yX9_takeRun ∈ ms_B := ms_memB 0 (by decide +kernel) (by decide +kernel)
set_option maxRecDepth 100000 in
theorem kw_1 : Cond.selects RX8 yX8_isWord yX8_isWord ∈ ms_B := ms_memB 1 (by decide +kernel) (by decide +kernel)
set_option maxRecDepth 100000 in
theorem kw_2 : Cond.selects RX8 yX8_readBases yX8_readBases ∈ ms_B := ms_memB 2 (by decide +kernel) (by decide +kernel)
set_option maxRecDepth 100000 in
theorem kw_3 : Cond.selects RX8 yX8_newNameFault yX8_newNameFault ∈ ms_B := ms_memB 3 (by decide +kernel) (by decide +kernel)
set_option maxRecDepth 100000 in
theorem kw_4 : Cond.selects RX8 yX8_isName yX8_isName ∈ ms_B := ms_memB 4 (by decide +kernel) (by decide +kernel)
set_option maxRecDepth 100000 in
theorem kw_5 : Cond.selects RX8 yX8_fault yX8_fault ∈ ms_B := ms_memB 5 (by decide +kernel) (by decide +kernel)
set_option maxRecDepth 100000 in
theorem kw_6 : Cond.selects RX8 yX8_nodeNamed yX8_nodeNamed ∈ ms_B := ms_memB 6 (by decide +kernel) (by decide +kernel)
set_option maxRecDepth 100000 in
theorem kw_7 : Cond.selects RX8 yX8_readWants yX8_readWants ∈ ms_B := ms_memB 7 (by decide +kernel) (by decide +kernel)
set_option maxRecDepth 100000 in
theorem kw_8 : Cond.selects RX8 yX8_readEnd yX8_readEnd ∈ ms_B := ms_memB 8 (by decide +kernel) (by decide +kernel)
set_option maxRecDepth 100000 in
theorem kw_9 : Cond.selects RX8 yX8_knownNameFault yX8_knownNameFault ∈ ms_B := ms_memB 9 (by decide +kernel) (by decide +kernel)
set_option maxRecDepth 100000 in
theorem kw_10 : Cond.selects RX8 yX8_readStatement yX8_readStatement ∈ ms_B := ms_memB 10 (by decide +kernel) (by decide +kernel)
set_option maxRecDepth 100000 in
theorem kw_11 : Cond.selects RX8 yX8_readProduct yX8_readProduct ∈ ms_B := ms_memB 11 (by decide +kernel) (by decide +kernel)
set_option maxRecDepth 100000 in
theorem kw_12 : Cond.selects RX8 yX8_statementEndFault yX8_statementEndFault ∈ ms_B := ms_memB 12 (by decide +kernel) (by decide +kernel)
set_option maxRecDepth 100000 in
theorem kw_13 : Cond.selects RX8 yX8_addStep yX8_addStep ∈ ms_B := ms_memB 13 (by decide +kernel) (by decide +kernel)
set_option maxRecDepth 100000 in
theorem kw_14 : Cond.selects RX8 yX8_giveName yX8_giveName ∈ ms_B := ms_memB 14 (by decide +kernel) (by decide +kernel)
set_option maxRecDepth 100000 in
theorem kw_15 : Cond.selects RX8 yX8_readPower yX8_readPower ∈ ms_B := ms_memB 15 (by decide +kernel) (by decide +kernel)
set_option maxRecDepth 100000 in
theorem kw_16 : Cond.selects RX11 yX11_adopt yX11_adopt ∈ ms_B := ms_memB 16 (by decide +kernel) (by decide +kernel)
set_option maxRecDepth 100000 in
theorem kw_17 : Cond.selects RX11 yX11_filledShelves yX11_filledShelves ∈ ms_B := ms_memB 17 (by decide +kernel) (by decide +kernel)
set_option maxRecDepth 100000 in
theorem kw_18 : Cond.selects RX11 yX11_dropSteps yX11_dropSteps ∈ ms_B := ms_memB 18 (by decide +kernel) (by decide +kernel)
set_option maxRecDepth 100000 in
theorem kw_19 : Cond.selects RX2 yX2_alike yX2_alike ∈ ms_B := ms_memB 19 (by decide +kernel) (by decide +kernel)
set_option maxRecDepth 100000 in
theorem kw_20 : Cond.selects RX10 yX10_gatherWants yX10_gatherWants ∈ ms_B := ms_memB 20 (by decide +kernel) (by decide +kernel)
set_option maxRecDepth 100000 in
theorem kw_21 : Cond.selects RX10 yX10_join yX10_join ∈ ms_B := ms_memB 21 (by decide +kernel) (by decide +kernel)
set_option maxRecDepth 100000 in
theorem kw_22 : Cond.selects RX10 yX10_gatherSteps yX10_gatherSteps ∈ ms_B := ms_memB 22 (by decide +kernel) (by decide +kernel)
set_option maxRecDepth 100000 in
theorem kw_23 : Cond.selects RX10 yX10_wantBases yX10_wantBases ∈ ms_B := ms_memB 23 (by decide +kernel) (by decide +kernel)
set_option maxRecDepth 100000 in
theorem kw_24 : Cond.selects RX1 yX1_put yX1_put ∈ ms_B := ms_memB 24 (by decide +kernel) (by decide +kernel)
set_option maxRecDepth 100000 in
theorem kw_25 : Cond.selects RX1 yX1_placeOf yX1_placeOf ∈ ms_B := ms_memB 25 (by decide +kernel) (by decide +kernel)
set_option maxRecDepth 100000 in
theorem kw_26 : Cond.selects RX1 yX1_descend yX1_descend ∈ ms_B := ms_memB 26 (by decide +kernel) (by decide +kernel)
set_option maxRecDepth 100000 in
theorem kw_27 : Cond.selects RX1 yX1_write yX1_write ∈ ms_B := ms_memB 27 (by decide +kernel) (by decide +kernel)
set_option maxRecDepth 100000 in
theorem kw_28 : Cond.selects RX11 yX11_holds yX11_holds ∈ ms_B := ms_memB 28 (by decide +kernel) (by decide +kernel)
set_option maxRecDepth 100000 in
theorem kw_29 : Cond.selects RX11 yX11_comesToTheSame yX11_comesToTheSame ∈ ms_B := ms_memB 29 (by decide +kernel) (by decide +kernel)
set_option maxRecDepth 100000 in
theorem kw_30 : Cond.selects RX0 yX0_put yX0_put ∈ ms_B := ms_memB 30 (by decide +kernel) (by decide +kernel)
set_option maxRecDepth 100000 in
theorem kw_31 : Cond.selects RX0 yX0_goBinary yX0_goBinary ∈ ms_B := ms_memB 31 (by decide +kernel) (by decide +kernel)
set_option maxRecDepth 100000 in
theorem kw_32 : Cond.selects RX0 yX0_goRight yX0_goRight ∈ ms_B := ms_memB 32 (by decide +kernel) (by decide +kernel)
set_option maxRecDepth 100000 in
theorem kw_33 : Cond.selects RX0 yX0_goThrees yX0_goThrees ∈ ms_B := ms_memB 33 (by decide +kernel) (by decide +kernel)
set_option maxRecDepth 100000 in
theorem kw_34 : Cond.selects RX0 yX0_standsAheadOf yX0_standsAheadOf ∈ ms_B := ms_memB 34 (by decide +kernel) (by decide +kernel)
set_option maxRecDepth 100000 in
theorem kw_36 : Cond.selects RX12 yX12_four yX12_four ∈ ms_B := ms_memB 36 (by decide +kernel) (by decide +kernel)
set_option maxRecDepth 100000 in
theorem kw_37 : Cond.selects RX12 yX12_go yX12_go ∈ ms_B := ms_memB 37 (by decide +kernel) (by decide +kernel)
set_option maxRecDepth 100000 in
theorem kw_38 : Cond.selects RX12 yX12_byteAt yX12_byteAt ∈ ms_B := ms_memB 38 (by decide +kernel) (by decide +kernel)
set_option maxRecDepth 100000 in
theorem kw_39 : Cond.selects RX12 yX12_baseLine yX12_baseLine ∈ ms_B := ms_memB 39 (by decide +kernel) (by decide +kernel)
set_option maxRecDepth 100000 in
theorem kw_40 : Cond.selects RX12 yX12_is yX12_is ∈ ms_B := ms_memB 40 (by decide +kernel) (by decide +kernel)
set_option maxRecDepth 100000 in
theorem kw_41 : Cond.selects RX12 yX12_bad yX12_bad ∈ ms_B := ms_memB 41 (by decide +kernel) (by decide +kernel)
set_option maxRecDepth 100000 in
theorem kw_42 : Cond.selects RX12 yX12_isName yX12_isName ∈ ms_B := ms_memB 42 (by decide +kernel) (by decide +kernel)
set_option maxRecDepth 100000 in
theorem kw_43 : Cond.selects RX12 yX12_find yX12_find ∈ ms_B := ms_memB 43 (by decide +kernel) (by decide +kernel)
set_option maxRecDepth 100000 in
theorem kw_44 : Cond.selects RX12 yX12_gives yX12_gives ∈ ms_B := ms_memB 44 (by decide +kernel) (by decide +kernel)
set_option maxRecDepth 100000 in
theorem kw_45 : Cond.selects RX12 yX12_isSign yX12_isSign ∈ ms_B := ms_memB 45 (by decide +kernel) (by decide +kernel)
set_option maxRecDepth 100000 in
theorem kw_46 : Cond.selects RX12 yX12_statement yX12_statement ∈ ms_B := ms_memB 46 (by decide +kernel) (by decide +kernel)
set_option maxRecDepth 100000 in
theorem kw_47 : Cond.selects RX12 yX12_known yX12_known ∈ ms_B := ms_memB 47 (by decide +kernel) (by decide +kernel)
set_option maxRecDepth 100000 in
theorem kw_48 : Cond.selects RX12 yX12_adds yX12_adds ∈ ms_B := ms_memB 48 (by decide +kernel) (by decide +kernel)
set_option maxRecDepth 100000 in
theorem kw_49 : Cond.selects RX12 yX12_power yX12_power ∈ ms_B := ms_memB 49 (by decide +kernel) (by decide +kernel)
set_option maxRecDepth 100000 in
theorem kw_50 : Cond.selects RX12 yX12_highest yX12_highest ∈ ms_B := ms_memB 50 (by decide +kernel) (by decide +kernel)
set_option maxRecDepth 100000 in
theorem kw_51 : Cond.selects RX12 yX12_areHuge yX12_areHuge ∈ ms_B := ms_memB 51 (by decide +kernel) (by decide +kernel)
set_option maxRecDepth 100000 in
theorem kw_52 : Cond.selects RX12 yX12_powersOf yX12_powersOf ∈ ms_B := ms_memB 52 (by decide +kernel) (by decide +kernel)
set_option maxRecDepth 100000 in
theorem kw_53 : Cond.selects RX12 yX12_wantLine yX12_wantLine ∈ ms_B := ms_memB 53 (by decide +kernel) (by decide +kernel)
set_option maxRecDepth 100000 in
theorem kw_54 : Cond.selects RX12 yX12_becomes yX12_becomes ∈ ms_B := ms_memB 54 (by decide +kernel) (by decide +kernel)
set_option maxRecDepth 100000 in
theorem kw_55 : Cond.selects RX12 yX12_keeps yX12_keeps ∈ ms_B := ms_memB 55 (by decide +kernel) (by decide +kernel)
set_option maxRecDepth 100000 in
theorem kw_56 : Cond.selects RX12 yX12_sorts yX12_sorts ∈ ms_B := ms_memB 56 (by decide +kernel) (by decide +kernel)
set_option maxRecDepth 100000 in
theorem kw_57 : Cond.selects RX12 yX12_sortOf yX12_sortOf ∈ ms_B := ms_memB 57 (by decide +kernel) (by decide +kernel)
set_option maxRecDepth 100000 in
theorem kw_58 : Cond.selects RX12 yX12_needs yX12_needs ∈ ms_B := ms_memB 58 (by decide +kernel) (by decide +kernel)
set_option maxRecDepth 100000 in
theorem kw_59 : Cond.selects RX12 yX12_depthsAll yX12_depthsAll ∈ ms_B := ms_memB 59 (by decide +kernel) (by decide +kernel)
set_option maxRecDepth 100000 in
theorem kw_60 : Cond.selects RX12 yX12_isNode yX12_isNode ∈ ms_B := ms_memB 60 (by decide +kernel) (by decide +kernel)
set_option maxRecDepth 100000 in
theorem kw_61 : Cond.selects RX12 yX12_firstAlike yX12_firstAlike ∈ ms_B := ms_memB 61 (by decide +kernel) (by decide +kernel)
set_option maxRecDepth 100000 in
theorem kw_62 : Cond.selects RX12 yX12_areAlike yX12_areAlike ∈ ms_B := ms_memB 62 (by decide +kernel) (by decide +kernel)
set_option maxRecDepth 100000 in
theorem kw_63 : Cond.selects RX12 yX12_squeezes yX12_squeezes ∈ ms_B := ms_memB 63 (by decide +kernel) (by decide +kernel)
set_option maxRecDepth 100000 in
theorem kw_64 : Cond.selects RX12 yX12_turns yX12_turns ∈ ms_B := ms_memB 64 (by decide +kernel) (by decide +kernel)
set_option maxRecDepth 100000 in
theorem kw_65 : Cond.selects RX12 yX12_joins yX12_joins ∈ ms_B := ms_memB 65 (by decide +kernel) (by decide +kernel)
set_option maxRecDepth 100000 in
theorem kw_66 : Cond.selects RX12 yX12_sequenced yX12_sequenced ∈ ms_B := ms_memB 66 (by decide +kernel) (by decide +kernel)
set_option maxRecDepth 100000 in
theorem kw_67 : Cond.selects RX12 yX12_ofBoth yX12_ofBoth ∈ ms_B := ms_memB 67 (by decide +kernel) (by decide +kernel)
set_option maxRecDepth 100000 in
theorem kw_68 : Cond.selects RX12 yX12_lays yX12_lays ∈ ms_B := ms_memB 68 (by decide +kernel) (by decide +kernel)
set_option maxRecDepth 100000 in
theorem kw_69 : Cond.selects RX12 yX12_marksBinary yX12_marksBinary ∈ ms_B := ms_memB 69 (by decide +kernel) (by decide +kernel)
set_option maxRecDepth 100000 in
theorem kw_70 : Cond.selects RX12 yX12_marksRight yX12_marksRight ∈ ms_B := ms_memB 70 (by decide +kernel) (by decide +kernel)
set_option maxRecDepth 100000 in
theorem kw_71 : Cond.selects RX12 yX12_marksFactor yX12_marksFactor ∈ ms_B := ms_memB 71 (by decide +kernel) (by decide +kernel)
set_option maxRecDepth 100000 in
theorem kw_72 : Cond.selects RX12 yX12_marksThrees yX12_marksThrees ∈ ms_B := ms_memB 72 (by decide +kernel) (by decide +kernel)
set_option maxRecDepth 100000 in
theorem kw_73 : Cond.selects RX12 yX12_lowerOf yX12_lowerOf ∈ ms_B := ms_memB 73 (by decide +kernel) (by decide +kernel)
set_option maxRecDepth 100000 in
theorem kw_74 : Cond.selects RX12 yX12_goes yX12_goes ∈ ms_B := ms_memB 74 (by decide +kernel) (by decide +kernel)
set_option maxRecDepth 100000 in
theorem kw_76 : Cond.initialized RX11 ∈ ms_B := ms_memB 76 (by decide +kernel) (by decide +kernel)
set_option maxRecDepth 100000 in
theorem kw_77 : Cond.initialized RX4 ∈ ms_B := ms_memB 77 (by decide +kernel) (by decide +kernel)
set_option maxRecDepth 100000 in
theorem kw_78 : Cond.initialized RX3 ∈ ms_B := ms_memB 78 (by decide +kernel) (by decide +kernel)
set_option maxRecDepth 100000 in
theorem kw_79 : Cond.initialized RX6 ∈ ms_B := ms_memB 79 (by decide +kernel) (by decide +kernel)
set_option maxRecDepth 100000 in
theorem kw_80 : Cond.initialized RX2 ∈ ms_B := ms_memB 80 (by decide +kernel) (by decide +kernel)
set_option maxRecDepth 100000 in
theorem kw_81 : Cond.initialized RX7 ∈ ms_B := ms_memB 81 (by decide +kernel) (by decide +kernel)
set_option maxRecDepth 100000 in
theorem kw_82 : Cond.initialized RX8 ∈ ms_B := ms_memB 82 (by decide +kernel) (by decide +kernel)
set_option maxRecDepth 100000 in
theorem kw_83 : Cond.initialized RX9 ∈ ms_B := ms_memB 83 (by decide +kernel) (by decide +kernel)
set_option maxRecDepth 100000 in
theorem kw_84 : Cond.initialized RX10 ∈ ms_B := ms_memB 84 (by decide +kernel) (by decide +kernel)
set_option maxRecDepth 100000 in
theorem kw_85 : Cond.initialized RX1 ∈ ms_B := ms_memB 85 (by decide +kernel) (by decide +kernel)
set_option maxRecDepth 100000 in
theorem kw_86 : Cond.initialized RX0 ∈ ms_B := ms_memB 86 (by decide +kernel) (by decide +kernel)
set_option maxRecDepth 100000 in
theorem kw_87 : Cond.initialized RX5 ∈ ms_B := ms_memB 87 (by decide +kernel) (by decide +kernel)
set_option maxRecDepth 100000 in
theorem kw_88 : Cond.initialized RX12 ∈ ms_B := ms_memB 88 (by decide +kernel) (by decide +kernel)
set_option maxRecDepth 100000 in
theorem kw_89 : Cond.initialized RJ6 ∈ ms_B := ms_memB 89 (by decide +kernel) (by decide +kernel)
set_option maxRecDepth 100000 in
theorem kw_90 : Cond.initialized "java/lang/System" ∈ ms_B := ms_memB 90 (by decide +kernel) (by decide +kernel)
set_option maxRecDepth 100000 in
theorem kw_91 : Cond.initialized "java/lang/Math" ∈ ms_B := ms_memB 91 (by decide +kernel) (by decide +kernel)
set_option maxRecDepth 100000 in
theorem kw_101 : Cond.methodLink RX11 3 Lib.objectInit ∈ ms_B := ms_memB 101 (by decide +kernel) (by decide +kernel)
set_option maxRecDepth 100000 in
theorem kw_102 : Cond.instanceMethod Lib.objectInit ∈ ms_B := ms_memB 102 (by decide +kernel) (by decide +kernel)
set_option maxRecDepth 100000 in
theorem kw_103 : Cond.code Lib.objectInit ⟨#[0xb1]⟩ 1 none ∈ ms_B := ms_memB 103 (by decide +kernel) (by decide +kernel)
set_option maxRecDepth 100000 in
theorem kw_104 : Cond.classLink RX11 9 RX4 ∈ ms_B := ms_memB 104 (by decide +kernel) (by decide +kernel)
set_option maxRecDepth 100000 in
theorem kw_105 : Cond.instantiable RX4 6 ∈ ms_B := ms_memB 105 (by decide +kernel) (by decide +kernel)
set_option maxRecDepth 100000 in
theorem kw_106 : Cond.methodLinkNest RX11 11 yX4_init "PowerChains" ∈ ms_N := ms_memN 106 (by decide +kernel) (by decide +kernel)
set_option maxRecDepth 100000 in
theorem kw_107 : Cond.instanceMethod yX4_init ∈ ms_B := ms_memB 107 (by decide +kernel) (by decide +kernel)
set_option maxRecDepth 100000 in
theorem kw_108 : Cond.code yX4_init cX4_init 1 (none) ∈ ms_B := ms_memB 108 (by decide +kernel) (by decide +kernel)
set_option maxRecDepth 100000 in
theorem kw_109 : Cond.methodLink RX4 3 Lib.objectInit ∈ ms_B := ms_memB 109 (by decide +kernel) (by decide +kernel)
set_option maxRecDepth 100000 in
theorem kw_110 : Cond.fieldLink RX4 9 RX4 "left" "[I" ∈ ms_B := ms_memB 110 (by decide +kernel) (by decide +kernel)
set_option maxRecDepth 100000 in
theorem kw_111 : Cond.fieldLink RX2 29 RX4 "left" "[I" ∈ ms_B := ms_memB 111 (by decide +kernel) (by decide +kernel)
set_option maxRecDepth 100000 in
theorem kw_112 : Cond.fieldLink RX6 29 RX4 "left" "[I" ∈ ms_B := ms_memB 112 (by decide +kernel) (by decide +kernel)
set_option maxRecDepth 100000 in
theorem kw_113 : Cond.fieldLink RX10 56 RX4 "left" "[I" ∈ ms_B := ms_memB 113 (by decide +kernel) (by decide +kernel)
set_option maxRecDepth 100000 in
theorem kw_114 : Cond.fieldLink RX11 165 RX4 "left" "[I" ∈ ms_B := ms_memB 114 (by decide +kernel) (by decide +kernel)
set_option maxRecDepth 100000 in
theorem kw_115 : Cond.fieldLink RX4 15 RX4 "right" "[I" ∈ ms_B := ms_memB 115 (by decide +kernel) (by decide +kernel)
set_option maxRecDepth 100000 in
theorem kw_116 : Cond.fieldLink RX2 33 RX4 "right" "[I" ∈ ms_B := ms_memB 116 (by decide +kernel) (by decide +kernel)
set_option maxRecDepth 100000 in
theorem kw_117 : Cond.fieldLink RX6 32 RX4 "right" "[I" ∈ ms_B := ms_memB 117 (by decide +kernel) (by decide +kernel)
set_option maxRecDepth 100000 in
theorem kw_118 : Cond.fieldLink RX10 59 RX4 "right" "[I" ∈ ms_B := ms_memB 118 (by decide +kernel) (by decide +kernel)
set_option maxRecDepth 100000 in
theorem kw_119 : Cond.fieldLink RX11 168 RX4 "right" "[I" ∈ ms_B := ms_memB 119 (by decide +kernel) (by decide +kernel)
set_option maxRecDepth 100000 in
theorem kw_120 : Cond.fieldLink RX4 18 RX4 "wants" "[I" ∈ ms_B := ms_memB 120 (by decide +kernel) (by decide +kernel)
set_option maxRecDepth 100000 in
theorem kw_121 : Cond.fieldLink RX10 40 RX4 "wants" "[I" ∈ ms_B := ms_memB 121 (by decide +kernel) (by decide +kernel)
set_option maxRecDepth 100000 in
theorem kw_122 : Cond.fieldLink RX6 49 RX4 "wants" "[I" ∈ ms_B := ms_memB 122 (by decide +kernel) (by decide +kernel)
set_option maxRecDepth 100000 in
theorem kw_123 : Cond.fieldLink RX8 87 RX4 "wants" "[I" ∈ ms_B := ms_memB 123 (by decide +kernel) (by decide +kernel)
set_option maxRecDepth 100000 in
theorem kw_124 : Cond.fieldLink RX11 202 RX4 "wants" "[I" ∈ ms_B := ms_memB 124 (by decide +kernel) (by decide +kernel)
set_option maxRecDepth 100000 in
theorem kw_125 : Cond.fieldLink RX1 54 RX4 "wants" "[I" ∈ ms_B := ms_memB 125 (by decide +kernel) (by decide +kernel)
set_option maxRecDepth 100000 in
theorem kw_126 : Cond.fieldLink RX4 21 RX4 "bases" "I" ∈ ms_B := ms_memB 126 (by decide +kernel) (by decide +kernel)
set_option maxRecDepth 100000 in
theorem kw_127 : Cond.fieldLink RX8 78 RX4 "bases" "I" ∈ ms_B := ms_memB 127 (by decide +kernel) (by decide +kernel)
set_option maxRecDepth 100000 in
theorem kw_128 : Cond.fieldLink RX10 47 RX4 "bases" "I" ∈ ms_B := ms_memB 128 (by decide +kernel) (by decide +kernel)
set_option maxRecDepth 100000 in
theorem kw_129 : Cond.fieldLink RX6 52 RX4 "bases" "I" ∈ ms_B := ms_memB 129 (by decide +kernel) (by decide +kernel)
set_option maxRecDepth 100000 in
theorem kw_130 : Cond.fieldLink RX11 123 RX4 "bases" "I" ∈ ms_B := ms_memB 130 (by decide +kernel) (by decide +kernel)
set_option maxRecDepth 100000 in
theorem kw_131 : Cond.fieldLink RX4 25 RX4 "steps" "I" ∈ ms_B := ms_memB 131 (by decide +kernel) (by decide +kernel)
set_option maxRecDepth 100000 in
theorem kw_132 : Cond.fieldLink RX11 126 RX4 "steps" "I" ∈ ms_B := ms_memB 132 (by decide +kernel) (by decide +kernel)
set_option maxRecDepth 100000 in
theorem kw_133 : Cond.fieldLink RX8 124 RX4 "steps" "I" ∈ ms_B := ms_memB 133 (by decide +kernel) (by decide +kernel)
set_option maxRecDepth 100000 in
theorem kw_134 : Cond.fieldLink RX10 15 RX4 "wantCount" "I" ∈ ms_B := ms_memB 134 (by decide +kernel) (by decide +kernel)
set_option maxRecDepth 100000 in
theorem kw_135 : Cond.fieldLink RX6 45 RX4 "wantCount" "I" ∈ ms_B := ms_memB 135 (by decide +kernel) (by decide +kernel)
set_option maxRecDepth 100000 in
theorem kw_136 : Cond.fieldLink RX8 93 RX4 "wantCount" "I" ∈ ms_B := ms_memB 136 (by decide +kernel) (by decide +kernel)
set_option maxRecDepth 100000 in
theorem kw_137 : Cond.fieldLink RX11 129 RX4 "wantCount" "I" ∈ ms_B := ms_memB 137 (by decide +kernel) (by decide +kernel)
set_option maxRecDepth 100000 in
theorem kw_138 : Cond.fieldLink RX4 32 RX4 "wantCount" "I" ∈ ms_B := ms_memB 138 (by decide +kernel) (by decide +kernel)
set_option maxRecDepth 100000 in
theorem kw_139 : Cond.fieldLink RX1 57 RX4 "wantCount" "I" ∈ ms_B := ms_memB 139 (by decide +kernel) (by decide +kernel)
set_option maxRecDepth 100000 in
theorem kw_153 : Cond.arrayClass (newarray.typeOf .int) ∈ ms_B := ms_memB 153 (by decide +kernel) (by decide +kernel)
set_option maxRecDepth 100000 in
theorem kw_155 : Cond.classLink RX11 30 RX3 ∈ ms_B := ms_memB 155 (by decide +kernel) (by decide +kernel)
set_option maxRecDepth 100000 in
theorem kw_156 : Cond.instantiable RX3 3 ∈ ms_B := ms_memB 156 (by decide +kernel) (by decide +kernel)
set_option maxRecDepth 100000 in
theorem kw_157 : Cond.methodLink RX11 32 yX3_init ∈ ms_B := ms_memB 157 (by decide +kernel) (by decide +kernel)
set_option maxRecDepth 100000 in
theorem kw_158 : Cond.instanceMethod yX3_init ∈ ms_B := ms_memB 158 (by decide +kernel) (by decide +kernel)
set_option maxRecDepth 100000 in
theorem kw_159 : Cond.code yX3_init cX3_init 2 (none) ∈ ms_B := ms_memB 159 (by decide +kernel) (by decide +kernel)
set_option maxRecDepth 100000 in
theorem kw_160 : Cond.methodLink RX3 3 Lib.objectInit ∈ ms_B := ms_memB 160 (by decide +kernel) (by decide +kernel)
set_option maxRecDepth 100000 in
theorem kw_161 : Cond.classLink RX3 9 RX4 ∈ ms_B := ms_memB 161 (by decide +kernel) (by decide +kernel)
set_option maxRecDepth 100000 in
theorem kw_162 : Cond.methodLinkNest RX3 17 yX4_init "PowerChains" ∈ ms_N := ms_memN 162 (by decide +kernel) (by decide +kernel)
set_option maxRecDepth 100000 in
theorem kw_163 : Cond.fieldLink RX3 11 RX3 "past" "[LPowerChains$Program;" ∈ ms_B := ms_memB 163 (by decide +kernel) (by decide +kernel)
set_option maxRecDepth 100000 in
theorem kw_164 : Cond.fieldLink RX3 22 RX3 "oldest" "I" ∈ ms_B := ms_memB 164 (by decide +kernel) (by decide +kernel)
set_option maxRecDepth 100000 in
theorem kw_165 : Cond.fieldLink RX3 18 RX3 "kept" "I" ∈ ms_B := ms_memB 165 (by decide +kernel) (by decide +kernel)
set_option maxRecDepth 100000 in
theorem kw_166 : Cond.fieldLink RX11 142 RX3 "kept" "I" ∈ ms_B := ms_memB 166 (by decide +kernel) (by decide +kernel)
set_option maxRecDepth 100000 in
theorem kw_174 : Cond.arrayClass (newarray.typeOf .boolean) ∈ ms_B := ms_memB 174 (by decide +kernel) (by decide +kernel)
set_option maxRecDepth 100000 in
theorem kw_175 : Cond.classLink RX11 37 RX6 ∈ ms_B := ms_memB 175 (by decide +kernel) (by decide +kernel)
set_option maxRecDepth 100000 in
theorem kw_176 : Cond.instantiable RX6 2 ∈ ms_B := ms_memB 176 (by decide +kernel) (by decide +kernel)
set_option maxRecDepth 100000 in
theorem kw_177 : Cond.methodLinkNest RX11 39 yX6_init "PowerChains" ∈ ms_N := ms_memN 177 (by decide +kernel) (by decide +kernel)
set_option maxRecDepth 100000 in
theorem kw_178 : Cond.instanceMethod yX6_init ∈ ms_B := ms_memB 178 (by decide +kernel) (by decide +kernel)
set_option maxRecDepth 100000 in
theorem kw_179 : Cond.code yX6_init cX6_init 1 (none) ∈ ms_B := ms_memB 179 (by decide +kernel) (by decide +kernel)
set_option maxRecDepth 100000 in
theorem kw_180 : Cond.methodLink RX6 3 Lib.objectInit ∈ ms_B := ms_memB 180 (by decide +kernel) (by decide +kernel)
set_option maxRecDepth 100000 in
theorem kw_181 : Cond.fieldLink RX6 9 RX6 "depth" "[I" ∈ ms_B := ms_memB 181 (by decide +kernel) (by decide +kernel)
set_option maxRecDepth 100000 in
theorem kw_182 : Cond.fieldLink RX11 178 RX6 "depth" "[I" ∈ ms_B := ms_memB 182 (by decide +kernel) (by decide +kernel)
set_option maxRecDepth 100000 in
theorem kw_183 : Cond.fieldLink RX6 15 RX6 "needed" "[Z" ∈ ms_B := ms_memB 183 (by decide +kernel) (by decide +kernel)
set_option maxRecDepth 100000 in
theorem kw_184 : Cond.fieldLink RX11 184 RX6 "needed" "[Z" ∈ ms_B := ms_memB 184 (by decide +kernel) (by decide +kernel)
set_option maxRecDepth 100000 in
theorem kw_190 : Cond.classLink RX11 44 RX2 ∈ ms_B := ms_memB 190 (by decide +kernel) (by decide +kernel)
set_option maxRecDepth 100000 in
theorem kw_191 : Cond.instantiable RX2 1 ∈ ms_B := ms_memB 191 (by decide +kernel) (by decide +kernel)
set_option maxRecDepth 100000 in
theorem kw_192 : Cond.methodLinkNest RX11 46 yX2_init "PowerChains" ∈ ms_N := ms_memN 192 (by decide +kernel) (by decide +kernel)
set_option maxRecDepth 100000 in
theorem kw_193 : Cond.instanceMethod yX2_init ∈ ms_B := ms_memB 193 (by decide +kernel) (by decide +kernel)
set_option maxRecDepth 100000 in
theorem kw_194 : Cond.code yX2_init cX2_init 1 (none) ∈ ms_B := ms_memB 194 (by decide +kernel) (by decide +kernel)
set_option maxRecDepth 100000 in
theorem kw_195 : Cond.methodLink RX2 3 Lib.objectInit ∈ ms_B := ms_memB 195 (by decide +kernel) (by decide +kernel)
set_option maxRecDepth 100000 in
theorem kw_196 : Cond.fieldLink RX2 9 RX2 "row" "[J" ∈ ms_B := ms_memB 196 (by decide +kernel) (by decide +kernel)
set_option maxRecDepth 100000 in
theorem kw_200 : Cond.arrayClass (newarray.typeOf .long) ∈ ms_B := ms_memB 200 (by decide +kernel) (by decide +kernel)
set_option maxRecDepth 100000 in
theorem kw_201 : Cond.classLink RX11 61 RX7 ∈ ms_B := ms_memB 201 (by decide +kernel) (by decide +kernel)
set_option maxRecDepth 100000 in
theorem kw_202 : Cond.instantiable RX7 2 ∈ ms_B := ms_memB 202 (by decide +kernel) (by decide +kernel)
set_option maxRecDepth 100000 in
theorem kw_203 : Cond.methodLinkNest RX11 63 yX7_init "PowerChains" ∈ ms_N := ms_memN 203 (by decide +kernel) (by decide +kernel)
set_option maxRecDepth 100000 in
theorem kw_204 : Cond.instanceMethod yX7_init ∈ ms_B := ms_memB 204 (by decide +kernel) (by decide +kernel)
set_option maxRecDepth 100000 in
theorem kw_205 : Cond.code yX7_init cX7_init 1 (none) ∈ ms_B := ms_memB 205 (by decide +kernel) (by decide +kernel)
set_option maxRecDepth 100000 in
theorem kw_206 : Cond.methodLink RX7 3 Lib.objectInit ∈ ms_B := ms_memB 206 (by decide +kernel) (by decide +kernel)
set_option maxRecDepth 100000 in
theorem kw_207 : Cond.fieldLink RX7 9 RX7 "bytes" "[B" ∈ ms_B := ms_memB 207 (by decide +kernel) (by decide +kernel)
set_option maxRecDepth 100000 in
theorem kw_208 : Cond.fieldLink RX11 111 RX7 "bytes" "[B" ∈ ms_B := ms_memB 208 (by decide +kernel) (by decide +kernel)
set_option maxRecDepth 100000 in
theorem kw_209 : Cond.fieldLink RX11 103 RX7 "length" "I" ∈ ms_B := ms_memB 209 (by decide +kernel) (by decide +kernel)
set_option maxRecDepth 100000 in
theorem kw_210 : Cond.fieldLink RX7 15 RX7 "length" "I" ∈ ms_B := ms_memB 210 (by decide +kernel) (by decide +kernel)
set_option maxRecDepth 100000 in
theorem kw_216 : Cond.arrayClass (newarray.typeOf .byte) ∈ ms_B := ms_memB 216 (by decide +kernel) (by decide +kernel)
set_option maxRecDepth 100000 in
theorem kw_217 : Cond.classLink RX11 68 RX8 ∈ ms_B := ms_memB 217 (by decide +kernel) (by decide +kernel)
set_option maxRecDepth 100000 in
theorem kw_218 : Cond.instantiable RX8 4 ∈ ms_B := ms_memB 218 (by decide +kernel) (by decide +kernel)
set_option maxRecDepth 100000 in
theorem kw_219 : Cond.methodLinkNest RX11 70 yX8_init "PowerChains" ∈ ms_N := ms_memN 219 (by decide +kernel) (by decide +kernel)
set_option maxRecDepth 100000 in
theorem kw_220 : Cond.instanceMethod yX8_init ∈ ms_B := ms_memB 220 (by decide +kernel) (by decide +kernel)
set_option maxRecDepth 100000 in
theorem kw_221 : Cond.code yX8_init cX8_init 1 (none) ∈ ms_B := ms_memB 221 (by decide +kernel) (by decide +kernel)
set_option maxRecDepth 100000 in
theorem kw_222 : Cond.methodLink RX8 3 Lib.objectInit ∈ ms_B := ms_memB 222 (by decide +kernel) (by decide +kernel)
set_option maxRecDepth 100000 in
theorem kw_223 : Cond.classLink RX8 9 RX9 ∈ ms_B := ms_memB 223 (by decide +kernel) (by decide +kernel)
set_option maxRecDepth 100000 in
theorem kw_224 : Cond.instantiable RX9 6 ∈ ms_B := ms_memB 224 (by decide +kernel) (by decide +kernel)
set_option maxRecDepth 100000 in
theorem kw_225 : Cond.methodLinkNest RX8 11 yX9_init "PowerChains" ∈ ms_N := ms_memN 225 (by decide +kernel) (by decide +kernel)
set_option maxRecDepth 100000 in
theorem kw_226 : Cond.instanceMethod yX9_init ∈ ms_B := ms_memB 226 (by decide +kernel) (by decide +kernel)
set_option maxRecDepth 100000 in
theorem kw_227 : Cond.code yX9_init cX9_init 1 (none) ∈ ms_B := ms_memB 227 (by decide +kernel) (by decide +kernel)
set_option maxRecDepth 100000 in
theorem kw_228 : Cond.methodLink RX9 3 Lib.objectInit ∈ ms_B := ms_memB 228 (by decide +kernel) (by decide +kernel)
set_option maxRecDepth 100000 in
theorem kw_229 : Cond.fieldLink RX9 9 RX9 "bytes" "[B" ∈ ms_B := ms_memB 229 (by decide +kernel) (by decide +kernel)
set_option maxRecDepth 100000 in
theorem kw_230 : Cond.fieldLink RX9 15 RX9 "length" "I" ∈ ms_B := ms_memB 230 (by decide +kernel) (by decide +kernel)
set_option maxRecDepth 100000 in
theorem kw_231 : Cond.fieldLink RX9 19 RX9 "next" "I" ∈ ms_B := ms_memB 231 (by decide +kernel) (by decide +kernel)
set_option maxRecDepth 100000 in
theorem kw_232 : Cond.fieldLink RX8 65 RX9 "kind" "I" ∈ ms_B := ms_memB 232 (by decide +kernel) (by decide +kernel)
set_option maxRecDepth 100000 in
theorem kw_233 : Cond.fieldLink RX9 28 RX9 "kind" "I" ∈ ms_B := ms_memB 233 (by decide +kernel) (by decide +kernel)
set_option maxRecDepth 100000 in
theorem kw_234 : Cond.fieldLink RX9 22 RX9 "place" "I" ∈ ms_B := ms_memB 234 (by decide +kernel) (by decide +kernel)
set_option maxRecDepth 100000 in
theorem kw_235 : Cond.fieldLink RX8 141 RX9 "place" "I" ∈ ms_B := ms_memB 235 (by decide +kernel) (by decide +kernel)
set_option maxRecDepth 100000 in
theorem kw_236 : Cond.fieldLink RX9 25 RX9 "worth" "I" ∈ ms_B := ms_memB 236 (by decide +kernel) (by decide +kernel)
set_option maxRecDepth 100000 in
theorem kw_237 : Cond.fieldLink RX8 72 RX9 "worth" "I" ∈ ms_B := ms_memB 237 (by decide +kernel) (by decide +kernel)
set_option maxRecDepth 100000 in
theorem kw_251 : Cond.classLink RX8 18 RX2 ∈ ms_B := ms_memB 251 (by decide +kernel) (by decide +kernel)
set_option maxRecDepth 100000 in
theorem kw_252 : Cond.methodLinkNest RX8 20 yX2_init "PowerChains" ∈ ms_N := ms_memN 252 (by decide +kernel) (by decide +kernel)
set_option maxRecDepth 100000 in
theorem kw_253 : Cond.fieldLink RX8 12 RX8 "tokens" "LPowerChains$Tokens;" ∈ ms_B := ms_memB 253 (by decide +kernel) (by decide +kernel)
set_option maxRecDepth 100000 in
theorem kw_254 : Cond.fieldLink RX8 21 RX8 "exponents" "LPowerChains$Exponents;" ∈ ms_B := ms_memB 254 (by decide +kernel) (by decide +kernel)
set_option maxRecDepth 100000 in
theorem kw_255 : Cond.fieldLink RX8 25 RX8 "names" "[I" ∈ ms_B := ms_memB 255 (by decide +kernel) (by decide +kernel)
set_option maxRecDepth 100000 in
theorem kw_256 : Cond.fieldLink RX8 29 RX8 "program" "LPowerChains$Program;" ∈ ms_B := ms_memB 256 (by decide +kernel) (by decide +kernel)
set_option maxRecDepth 100000 in
theorem kw_266 : Cond.classLink RX11 75 RX10 ∈ ms_B := ms_memB 266 (by decide +kernel) (by decide +kernel)
set_option maxRecDepth 100000 in
theorem kw_267 : Cond.instantiable RX10 1 ∈ ms_B := ms_memB 267 (by decide +kernel) (by decide +kernel)
set_option maxRecDepth 100000 in
theorem kw_268 : Cond.methodLinkNest RX11 77 yX10_init "PowerChains" ∈ ms_N := ms_memN 268 (by decide +kernel) (by decide +kernel)
set_option maxRecDepth 100000 in
theorem kw_269 : Cond.instanceMethod yX10_init ∈ ms_B := ms_memB 269 (by decide +kernel) (by decide +kernel)
set_option maxRecDepth 100000 in
theorem kw_270 : Cond.code yX10_init cX10_init 1 (none) ∈ ms_B := ms_memB 270 (by decide +kernel) (by decide +kernel)
set_option maxRecDepth 100000 in
theorem kw_271 : Cond.methodLink RX10 3 Lib.objectInit ∈ ms_B := ms_memB 271 (by decide +kernel) (by decide +kernel)
set_option maxRecDepth 100000 in
theorem kw_272 : Cond.fieldLink RX10 9 RX10 "came" "[I" ∈ ms_B := ms_memB 272 (by decide +kernel) (by decide +kernel)
set_option maxRecDepth 100000 in
theorem kw_276 : Cond.classLink RX11 82 RX1 ∈ ms_B := ms_memB 276 (by decide +kernel) (by decide +kernel)
set_option maxRecDepth 100000 in
theorem kw_277 : Cond.instantiable RX1 4 ∈ ms_B := ms_memB 277 (by decide +kernel) (by decide +kernel)
set_option maxRecDepth 100000 in
theorem kw_278 : Cond.methodLinkNest RX11 84 yX1_init "PowerChains" ∈ ms_N := ms_memN 278 (by decide +kernel) (by decide +kernel)
set_option maxRecDepth 100000 in
theorem kw_279 : Cond.instanceMethod yX1_init ∈ ms_B := ms_memB 279 (by decide +kernel) (by decide +kernel)
set_option maxRecDepth 100000 in
theorem kw_280 : Cond.code yX1_init cX1_init 1 (none) ∈ ms_B := ms_memB 280 (by decide +kernel) (by decide +kernel)
set_option maxRecDepth 100000 in
theorem kw_281 : Cond.methodLink RX1 3 Lib.objectInit ∈ ms_B := ms_memB 281 (by decide +kernel) (by decide +kernel)
set_option maxRecDepth 100000 in
theorem kw_282 : Cond.fieldLink RX1 9 RX1 "told" "[I" ∈ ms_B := ms_memB 282 (by decide +kernel) (by decide +kernel)
set_option maxRecDepth 100000 in
theorem kw_283 : Cond.fieldLink RX1 15 RX1 "set" "[I" ∈ ms_B := ms_memB 283 (by decide +kernel) (by decide +kernel)
set_option maxRecDepth 100000 in
theorem kw_284 : Cond.fieldLink RX1 18 RX1 "greater" "[I" ∈ ms_B := ms_memB 284 (by decide +kernel) (by decide +kernel)
set_option maxRecDepth 100000 in
theorem kw_285 : Cond.fieldLink RX1 21 RX1 "size" "I" ∈ ms_B := ms_memB 285 (by decide +kernel) (by decide +kernel)
set_option maxRecDepth 100000 in
theorem kw_295 : Cond.classLink RX11 89 RX0 ∈ ms_B := ms_memB 295 (by decide +kernel) (by decide +kernel)
set_option maxRecDepth 100000 in
theorem kw_296 : Cond.instantiable RX0 2 ∈ ms_B := ms_memB 296 (by decide +kernel) (by decide +kernel)
set_option maxRecDepth 100000 in
theorem kw_297 : Cond.methodLinkNest RX11 91 yX0_init "PowerChains" ∈ ms_N := ms_memN 297 (by decide +kernel) (by decide +kernel)
set_option maxRecDepth 100000 in
theorem kw_298 : Cond.instanceMethod yX0_init ∈ ms_B := ms_memB 298 (by decide +kernel) (by decide +kernel)
set_option maxRecDepth 100000 in
theorem kw_299 : Cond.code yX0_init cX0_init 1 (none) ∈ ms_B := ms_memB 299 (by decide +kernel) (by decide +kernel)
set_option maxRecDepth 100000 in
theorem kw_300 : Cond.methodLink RX0 3 Lib.objectInit ∈ ms_B := ms_memB 300 (by decide +kernel) (by decide +kernel)
set_option maxRecDepth 100000 in
theorem kw_301 : Cond.fieldLink RX0 11 RX0 "row" "[I" ∈ ms_B := ms_memB 301 (by decide +kernel) (by decide +kernel)
set_option maxRecDepth 100000 in
theorem kw_302 : Cond.fieldLink RX11 260 RX0 "row" "[I" ∈ ms_B := ms_memB 302 (by decide +kernel) (by decide +kernel)
set_option maxRecDepth 100000 in
theorem kw_303 : Cond.fieldLink RX0 15 RX0 "size" "I" ∈ ms_B := ms_memB 303 (by decide +kernel) (by decide +kernel)
set_option maxRecDepth 100000 in
theorem kw_304 : Cond.fieldLink RX11 258 RX0 "size" "I" ∈ ms_B := ms_memB 304 (by decide +kernel) (by decide +kernel)
set_option maxRecDepth 100000 in
theorem kw_310 : Cond.classLink RX11 96 RX5 ∈ ms_B := ms_memB 310 (by decide +kernel) (by decide +kernel)
set_option maxRecDepth 100000 in
theorem kw_311 : Cond.instantiable RX5 6 ∈ ms_B := ms_memB 311 (by decide +kernel) (by decide +kernel)
set_option maxRecDepth 100000 in
theorem kw_312 : Cond.methodLinkNest RX11 98 yX5_init "PowerChains" ∈ ms_N := ms_memN 312 (by decide +kernel) (by decide +kernel)
set_option maxRecDepth 100000 in
theorem kw_313 : Cond.instanceMethod yX5_init ∈ ms_B := ms_memB 313 (by decide +kernel) (by decide +kernel)
set_option maxRecDepth 100000 in
theorem kw_314 : Cond.code yX5_init cX5_init 1 (none) ∈ ms_B := ms_memB 314 (by decide +kernel) (by decide +kernel)
set_option maxRecDepth 100000 in
theorem kw_315 : Cond.methodLink RX5 3 Lib.objectInit ∈ ms_B := ms_memB 315 (by decide +kernel) (by decide +kernel)
set_option maxRecDepth 100000 in
theorem kw_316 : Cond.fieldLink RX5 11 RX5 "row" "[I" ∈ ms_B := ms_memB 316 (by decide +kernel) (by decide +kernel)
set_option maxRecDepth 100000 in
theorem kw_317 : Cond.fieldLink RX11 274 RX5 "row" "[I" ∈ ms_B := ms_memB 317 (by decide +kernel) (by decide +kernel)
set_option maxRecDepth 100000 in
theorem kw_318 : Cond.fieldLink RX5 25 RX5 "visits" "I" ∈ ms_B := ms_memB 318 (by decide +kernel) (by decide +kernel)
set_option maxRecDepth 100000 in
theorem kw_319 : Cond.fieldLink RX11 149 RX5 "visits" "I" ∈ ms_B := ms_memB 319 (by decide +kernel) (by decide +kernel)
set_option maxRecDepth 100000 in
theorem kw_320 : Cond.fieldLink RX5 15 RX5 "foundLength" "I" ∈ ms_B := ms_memB 320 (by decide +kernel) (by decide +kernel)
set_option maxRecDepth 100000 in
theorem kw_321 : Cond.fieldLink RX11 152 RX5 "foundLength" "I" ∈ ms_B := ms_memB 321 (by decide +kernel) (by decide +kernel)
set_option maxRecDepth 100000 in
theorem kw_322 : Cond.fieldLink RX5 19 RX5 "sought" "I" ∈ ms_B := ms_memB 322 (by decide +kernel) (by decide +kernel)
set_option maxRecDepth 100000 in
theorem kw_323 : Cond.fieldLink RX5 22 RX5 "budget" "I" ∈ ms_B := ms_memB 323 (by decide +kernel) (by decide +kernel)
set_option maxRecDepth 100000 in
theorem kw_324 : Cond.fieldLink RX5 32 RX5 "limit" "I" ∈ ms_B := ms_memB 324 (by decide +kernel) (by decide +kernel)
set_option maxRecDepth 100000 in
theorem kw_338 : Cond.fieldLink RX11 12 RX11 "program" "LPowerChains$Program;" ∈ ms_B := ms_memB 338 (by decide +kernel) (by decide +kernel)
set_option maxRecDepth 100000 in
theorem kw_339 : Cond.fieldLink RX11 16 RX11 "draft" "LPowerChains$Program;" ∈ ms_B := ms_memB 339 (by decide +kernel) (by decide +kernel)
set_option maxRecDepth 100000 in
theorem kw_340 : Cond.fieldLink RX11 19 RX11 "spare" "LPowerChains$Program;" ∈ ms_B := ms_memB 340 (by decide +kernel) (by decide +kernel)
set_option maxRecDepth 100000 in
theorem kw_341 : Cond.fieldLink RX11 22 RX11 "shelves" "[LPowerChains$Program;" ∈ ms_B := ms_memB 341 (by decide +kernel) (by decide +kernel)
set_option maxRecDepth 100000 in
theorem kw_342 : Cond.fieldLink RX11 26 RX11 "filled" "[Z" ∈ ms_B := ms_memB 342 (by decide +kernel) (by decide +kernel)
set_option maxRecDepth 100000 in
theorem kw_343 : Cond.fieldLink RX11 33 RX11 "history" "LPowerChains$History;" ∈ ms_B := ms_memB 343 (by decide +kernel) (by decide +kernel)
set_option maxRecDepth 100000 in
theorem kw_344 : Cond.fieldLink RX11 40 RX11 "survey" "LPowerChains$Survey;" ∈ ms_B := ms_memB 344 (by decide +kernel) (by decide +kernel)
set_option maxRecDepth 100000 in
theorem kw_345 : Cond.fieldLink RX11 47 RX11 "exponents" "LPowerChains$Exponents;" ∈ ms_B := ms_memB 345 (by decide +kernel) (by decide +kernel)
set_option maxRecDepth 100000 in
theorem kw_346 : Cond.fieldLink RX11 51 RX11 "shelfExponents" "LPowerChains$Exponents;" ∈ ms_B := ms_memB 346 (by decide +kernel) (by decide +kernel)
set_option maxRecDepth 100000 in
theorem kw_347 : Cond.fieldLink RX11 54 RX11 "becomes" "[I" ∈ ms_B := ms_memB 347 (by decide +kernel) (by decide +kernel)
set_option maxRecDepth 100000 in
theorem kw_348 : Cond.fieldLink RX11 58 RX11 "residues" "[I" ∈ ms_B := ms_memB 348 (by decide +kernel) (by decide +kernel)
set_option maxRecDepth 100000 in
theorem kw_349 : Cond.fieldLink RX11 64 RX11 "tape" "LPowerChains$Tape;" ∈ ms_B := ms_memB 349 (by decide +kernel) (by decide +kernel)
set_option maxRecDepth 100000 in
theorem kw_350 : Cond.fieldLink RX11 71 RX11 "reader" "LPowerChains$TextReader;" ∈ ms_B := ms_memB 350 (by decide +kernel) (by decide +kernel)
set_option maxRecDepth 100000 in
theorem kw_351 : Cond.fieldLink RX11 78 RX11 "turner" "LPowerChains$Turner;" ∈ ms_B := ms_memB 351 (by decide +kernel) (by decide +kernel)
set_option maxRecDepth 100000 in
theorem kw_352 : Cond.fieldLink RX11 85 RX11 "descent" "LPowerChains$Descent;" ∈ ms_B := ms_memB 352 (by decide +kernel) (by decide +kernel)
set_option maxRecDepth 100000 in
theorem kw_353 : Cond.fieldLink RX11 92 RX11 "numbers" "LPowerChains$Chain;" ∈ ms_B := ms_memB 353 (by decide +kernel) (by decide +kernel)
set_option maxRecDepth 100000 in
theorem kw_354 : Cond.fieldLink RX11 99 RX11 "seeker" "LPowerChains$Seeker;" ∈ ms_B := ms_memB 354 (by decide +kernel) (by decide +kernel)
set_option maxRecDepth 100000 in
theorem kw_394 : Cond.methodLink RX11 107 yX7_append ∈ ms_B := ms_memB 394 (by decide +kernel) (by decide +kernel)
set_option maxRecDepth 100000 in
theorem kw_395 : Cond.instanceMethod yX7_append ∈ ms_B := ms_memB 395 (by decide +kernel) (by decide +kernel)
set_option maxRecDepth 100000 in
theorem kw_396 : Cond.selects RX7 yX7_append yX7_append ∈ ms_B := ms_memB 396 (by decide +kernel) (by decide +kernel)
set_option maxRecDepth 100000 in
theorem kw_397 : Cond.code yX7_append cX7_append 3 (none) ∈ ms_B := ms_memB 397 (by decide +kernel) (by decide +kernel)
set_option maxRecDepth 100000 in
theorem kw_402 : Cond.methodLink RX11 115 yX8_read ∈ ms_B := ms_memB 402 (by decide +kernel) (by decide +kernel)
set_option maxRecDepth 100000 in
theorem kw_403 : Cond.instanceMethod yX8_read ∈ ms_B := ms_memB 403 (by decide +kernel) (by decide +kernel)
set_option maxRecDepth 100000 in
theorem kw_404 : Cond.selects RX8 yX8_read yX8_read ∈ ms_B := ms_memB 404 (by decide +kernel) (by decide +kernel)
set_option maxRecDepth 100000 in
theorem kw_405 : Cond.code yX8_read cX8_read 6 (some .int) ∈ ms_B := ms_memB 405 (by decide +kernel) (by decide +kernel)
set_option maxRecDepth 100000 in
theorem kw_406 : Cond.methodLink RX8 33 yX4_begin ∈ ms_B := ms_memB 406 (by decide +kernel) (by decide +kernel)
set_option maxRecDepth 100000 in
theorem kw_407 : Cond.instanceMethod yX4_begin ∈ ms_B := ms_memB 407 (by decide +kernel) (by decide +kernel)
set_option maxRecDepth 100000 in
theorem kw_408 : Cond.selects RX4 yX4_begin yX4_begin ∈ ms_B := ms_memB 408 (by decide +kernel) (by decide +kernel)
set_option maxRecDepth 100000 in
theorem kw_409 : Cond.code yX4_begin cX4_begin 2 (none) ∈ ms_B := ms_memB 409 (by decide +kernel) (by decide +kernel)
set_option maxRecDepth 100000 in
theorem kw_410 : Cond.methodLink RX8 39 yX9_begin ∈ ms_B := ms_memB 410 (by decide +kernel) (by decide +kernel)
set_option maxRecDepth 100000 in
theorem kw_411 : Cond.instanceMethod yX9_begin ∈ ms_B := ms_memB 411 (by decide +kernel) (by decide +kernel)
set_option maxRecDepth 100000 in
theorem kw_412 : Cond.selects RX9 yX9_begin yX9_begin ∈ ms_B := ms_memB 412 (by decide +kernel) (by decide +kernel)
set_option maxRecDepth 100000 in
theorem kw_413 : Cond.code yX9_begin cX9_begin 3 (none) ∈ ms_B := ms_memB 413 (by decide +kernel) (by decide +kernel)
set_option maxRecDepth 100000 in
theorem kw_414 : Cond.methodLink RX8 42 yX9_advance ∈ ms_B := ms_memB 414 (by decide +kernel) (by decide +kernel)
set_option maxRecDepth 100000 in
theorem kw_415 : Cond.instanceMethod yX9_advance ∈ ms_B := ms_memB 415 (by decide +kernel) (by decide +kernel)
set_option maxRecDepth 100000 in
theorem kw_416 : Cond.selects RX9 yX9_advance yX9_advance ∈ ms_B := ms_memB 416 (by decide +kernel) (by decide +kernel)
set_option maxRecDepth 100000 in
theorem kw_417 : Cond.code yX9_advance cX9_advance 2 (none) ∈ ms_B := ms_memB 417 (by decide +kernel) (by decide +kernel)
set_option maxRecDepth 100000 in
theorem kw_418 : Cond.methodLink RX9 31 yX9_takeRun ∈ ms_B := ms_memB 418 (by decide +kernel) (by decide +kernel)
set_option maxRecDepth 100000 in
theorem kw_420 : Cond.instanceMethod yX9_takeRun ∈ ms_B := ms_memB 420 (by decide +kernel) (by decide +kernel)
set_option maxRecDepth 100000 in
theorem kw_421 : Cond.code yX9_takeRun cX9_takeRun 6 (none) ∈ ms_B := ms_memB 421 (by decide +kernel) (by decide +kernel)
set_option maxRecDepth 100000 in
theorem kw_422 : Cond.constant RX8 45 (1650553701) ∈ ms_B := ms_memB 422 (by decide +kernel) (by decide +kernel)
set_option maxRecDepth 100000 in
theorem kw_423 : Cond.methodLink RX8 46 yX8_isWord ∈ ms_B := ms_memB 423 (by decide +kernel) (by decide +kernel)
set_option maxRecDepth 100000 in
theorem kw_425 : Cond.instanceMethod yX8_isWord ∈ ms_B := ms_memB 425 (by decide +kernel) (by decide +kernel)
set_option maxRecDepth 100000 in
theorem kw_426 : Cond.code yX8_isWord cX8_isWord 2 (some .boolean) ∈ ms_B := ms_memB 426 (by decide +kernel) (by decide +kernel)
set_option maxRecDepth 100000 in
theorem kw_427 : Cond.methodLink RX8 50 yX8_readBases ∈ ms_B := ms_memB 427 (by decide +kernel) (by decide +kernel)
set_option maxRecDepth 100000 in
theorem kw_429 : Cond.instanceMethod yX8_readBases ∈ ms_B := ms_memB 429 (by decide +kernel) (by decide +kernel)
set_option maxRecDepth 100000 in
theorem kw_430 : Cond.code yX8_readBases cX8_readBases 3 (some .int) ∈ ms_B := ms_memB 430 (by decide +kernel) (by decide +kernel)
set_option maxRecDepth 100000 in
theorem kw_431 : Cond.methodLink RX8 69 yX8_newNameFault ∈ ms_B := ms_memB 431 (by decide +kernel) (by decide +kernel)
set_option maxRecDepth 100000 in
theorem kw_433 : Cond.instanceMethod yX8_newNameFault ∈ ms_B := ms_memB 433 (by decide +kernel) (by decide +kernel)
set_option maxRecDepth 100000 in
theorem kw_434 : Cond.code yX8_newNameFault cX8_newNameFault 1 (some .int) ∈ ms_B := ms_memB 434 (by decide +kernel) (by decide +kernel)
set_option maxRecDepth 100000 in
theorem kw_435 : Cond.methodLink RX8 137 yX8_isName ∈ ms_B := ms_memB 435 (by decide +kernel) (by decide +kernel)
set_option maxRecDepth 100000 in
theorem kw_437 : Cond.instanceMethod yX8_isName ∈ ms_B := ms_memB 437 (by decide +kernel) (by decide +kernel)
set_option maxRecDepth 100000 in
theorem kw_438 : Cond.code yX8_isName cX8_isName 1 (some .boolean) ∈ ms_B := ms_memB 438 (by decide +kernel) (by decide +kernel)
set_option maxRecDepth 100000 in
theorem kw_439 : Cond.constant RX8 58 (2002873972) ∈ ms_B := ms_memB 439 (by decide +kernel) (by decide +kernel)
set_option maxRecDepth 100000 in
theorem kw_440 : Cond.methodLink RX8 54 yX8_fault ∈ ms_B := ms_memB 440 (by decide +kernel) (by decide +kernel)
set_option maxRecDepth 100000 in
theorem kw_442 : Cond.instanceMethod yX8_fault ∈ ms_B := ms_memB 442 (by decide +kernel) (by decide +kernel)
set_option maxRecDepth 100000 in
theorem kw_443 : Cond.code yX8_fault cX8_fault 2 (some .int) ∈ ms_B := ms_memB 443 (by decide +kernel) (by decide +kernel)
set_option maxRecDepth 100000 in
theorem kw_444 : Cond.methodLink RX8 90 yX8_nodeNamed ∈ ms_B := ms_memB 444 (by decide +kernel) (by decide +kernel)
set_option maxRecDepth 100000 in
theorem kw_446 : Cond.instanceMethod yX8_nodeNamed ∈ ms_B := ms_memB 446 (by decide +kernel) (by decide +kernel)
set_option maxRecDepth 100000 in
theorem kw_447 : Cond.code yX8_nodeNamed cX8_nodeNamed 3 (some .int) ∈ ms_B := ms_memB 447 (by decide +kernel) (by decide +kernel)
set_option maxRecDepth 100000 in
theorem kw_448 : Cond.methodLink RX8 121 yX4_size ∈ ms_B := ms_memB 448 (by decide +kernel) (by decide +kernel)
set_option maxRecDepth 100000 in
theorem kw_449 : Cond.instanceMethod yX4_size ∈ ms_B := ms_memB 449 (by decide +kernel) (by decide +kernel)
set_option maxRecDepth 100000 in
theorem kw_450 : Cond.selects RX4 yX4_size yX4_size ∈ ms_B := ms_memB 450 (by decide +kernel) (by decide +kernel)
set_option maxRecDepth 100000 in
theorem kw_451 : Cond.code yX4_size cX4_size 1 (some .int) ∈ ms_B := ms_memB 451 (by decide +kernel) (by decide +kernel)
set_option maxRecDepth 100000 in
theorem kw_452 : Cond.methodLink RX8 75 yX2_measureBase ∈ ms_B := ms_memB 452 (by decide +kernel) (by decide +kernel)
set_option maxRecDepth 100000 in
theorem kw_453 : Cond.instanceMethod yX2_measureBase ∈ ms_B := ms_memB 453 (by decide +kernel) (by decide +kernel)
set_option maxRecDepth 100000 in
theorem kw_454 : Cond.selects RX2 yX2_measureBase yX2_measureBase ∈ ms_B := ms_memB 454 (by decide +kernel) (by decide +kernel)
set_option maxRecDepth 100000 in
theorem kw_455 : Cond.code yX2_measureBase cX2_measureBase 3 (none) ∈ ms_B := ms_memB 455 (by decide +kernel) (by decide +kernel)
set_option maxRecDepth 100000 in
theorem kw_456 : Cond.methodLink RX8 59 yX8_readWants ∈ ms_B := ms_memB 456 (by decide +kernel) (by decide +kernel)
set_option maxRecDepth 100000 in
theorem kw_458 : Cond.instanceMethod yX8_readWants ∈ ms_B := ms_memB 458 (by decide +kernel) (by decide +kernel)
set_option maxRecDepth 100000 in
theorem kw_459 : Cond.code yX8_readWants cX8_readWants 3 (some .int) ∈ ms_B := ms_memB 459 (by decide +kernel) (by decide +kernel)
set_option maxRecDepth 100000 in
theorem kw_460 : Cond.methodLink RX8 81 yX8_readEnd ∈ ms_B := ms_memB 460 (by decide +kernel) (by decide +kernel)
set_option maxRecDepth 100000 in
theorem kw_462 : Cond.instanceMethod yX8_readEnd ∈ ms_B := ms_memB 462 (by decide +kernel) (by decide +kernel)
set_option maxRecDepth 100000 in
theorem kw_463 : Cond.code yX8_readEnd cX8_readEnd 1 (some .int) ∈ ms_B := ms_memB 463 (by decide +kernel) (by decide +kernel)
set_option maxRecDepth 100000 in
theorem kw_464 : Cond.methodLink RX8 84 yX8_knownNameFault ∈ ms_B := ms_memB 464 (by decide +kernel) (by decide +kernel)
set_option maxRecDepth 100000 in
theorem kw_466 : Cond.instanceMethod yX8_knownNameFault ∈ ms_B := ms_memB 466 (by decide +kernel) (by decide +kernel)
set_option maxRecDepth 100000 in
theorem kw_467 : Cond.code yX8_knownNameFault cX8_knownNameFault 1 (some .int) ∈ ms_B := ms_memB 467 (by decide +kernel) (by decide +kernel)
set_option maxRecDepth 100000 in
theorem kw_468 : Cond.methodLink RX8 62 yX8_readStatement ∈ ms_B := ms_memB 468 (by decide +kernel) (by decide +kernel)
set_option maxRecDepth 100000 in
theorem kw_470 : Cond.instanceMethod yX8_readStatement ∈ ms_B := ms_memB 470 (by decide +kernel) (by decide +kernel)
set_option maxRecDepth 100000 in
theorem kw_471 : Cond.code yX8_readStatement cX8_readStatement 4 (some .int) ∈ ms_B := ms_memB 471 (by decide +kernel) (by decide +kernel)
set_option maxRecDepth 100000 in
theorem kw_472 : Cond.methodLink RX8 96 yX8_readProduct ∈ ms_B := ms_memB 472 (by decide +kernel) (by decide +kernel)
set_option maxRecDepth 100000 in
theorem kw_474 : Cond.instanceMethod yX8_readProduct ∈ ms_B := ms_memB 474 (by decide +kernel) (by decide +kernel)
set_option maxRecDepth 100000 in
theorem kw_475 : Cond.code yX8_readProduct cX8_readProduct 5 (some .int) ∈ ms_B := ms_memB 475 (by decide +kernel) (by decide +kernel)
set_option maxRecDepth 100000 in
theorem kw_476 : Cond.methodLink RX8 103 yX8_statementEndFault ∈ ms_B := ms_memB 476 (by decide +kernel) (by decide +kernel)
set_option maxRecDepth 100000 in
theorem kw_478 : Cond.instanceMethod yX8_statementEndFault ∈ ms_B := ms_memB 478 (by decide +kernel) (by decide +kernel)
set_option maxRecDepth 100000 in
theorem kw_479 : Cond.code yX8_statementEndFault cX8_statementEndFault 2 (some .int) ∈ ms_B := ms_memB 479 (by decide +kernel) (by decide +kernel)
set_option maxRecDepth 100000 in
theorem kw_480 : Cond.methodLink RX8 106 yX8_addStep ∈ ms_B := ms_memB 480 (by decide +kernel) (by decide +kernel)
set_option maxRecDepth 100000 in
theorem kw_482 : Cond.instanceMethod yX8_addStep ∈ ms_B := ms_memB 482 (by decide +kernel) (by decide +kernel)
set_option maxRecDepth 100000 in
theorem kw_483 : Cond.code yX8_addStep cX8_addStep 4 (some .boolean) ∈ ms_B := ms_memB 483 (by decide +kernel) (by decide +kernel)
set_option maxRecDepth 100000 in
theorem kw_484 : Cond.methodLink RX8 127 yX2_fit ∈ ms_B := ms_memB 484 (by decide +kernel) (by decide +kernel)
set_option maxRecDepth 100000 in
theorem kw_485 : Cond.instanceMethod yX2_fit ∈ ms_B := ms_memB 485 (by decide +kernel) (by decide +kernel)
set_option maxRecDepth 100000 in
theorem kw_486 : Cond.selects RX2 yX2_fit yX2_fit ∈ ms_B := ms_memB 486 (by decide +kernel) (by decide +kernel)
set_option maxRecDepth 100000 in
theorem kw_487 : Cond.code yX2_fit cX2_fit 4 (some .boolean) ∈ ms_B := ms_memB 487 (by decide +kernel) (by decide +kernel)
set_option maxRecDepth 100000 in
theorem kw_488 : Cond.methodLink RX2 40 yX2_of ∈ ms_B := ms_memB 488 (by decide +kernel) (by decide +kernel)
set_option maxRecDepth 100000 in
theorem kw_489 : Cond.instanceMethod yX2_of ∈ ms_B := ms_memB 489 (by decide +kernel) (by decide +kernel)
set_option maxRecDepth 100000 in
theorem kw_490 : Cond.selects RX2 yX2_of yX2_of ∈ ms_B := ms_memB 490 (by decide +kernel) (by decide +kernel)
set_option maxRecDepth 100000 in
theorem kw_491 : Cond.code yX2_of cX2_of 3 (some .long) ∈ ms_B := ms_memB 491 (by decide +kernel) (by decide +kernel)
set_option maxRecDepth 100000 in
theorem kw_492 : Cond.constantLong RX2 44 (1000000000000000) ∈ ms_B := ms_memB 492 (by decide +kernel) (by decide +kernel)
set_option maxRecDepth 100000 in
theorem kw_493 : Cond.methodLink RX8 130 yX4_append ∈ ms_B := ms_memB 493 (by decide +kernel) (by decide +kernel)
set_option maxRecDepth 100000 in
theorem kw_494 : Cond.instanceMethod yX4_append ∈ ms_B := ms_memB 494 (by decide +kernel) (by decide +kernel)
set_option maxRecDepth 100000 in
theorem kw_495 : Cond.selects RX4 yX4_append yX4_append ∈ ms_B := ms_memB 495 (by decide +kernel) (by decide +kernel)
set_option maxRecDepth 100000 in
theorem kw_496 : Cond.code yX4_append cX4_append 4 (some .int) ∈ ms_B := ms_memB 496 (by decide +kernel) (by decide +kernel)
set_option maxRecDepth 100000 in
theorem kw_497 : Cond.methodLink RX4 28 yX4_size ∈ ms_B := ms_memB 497 (by decide +kernel) (by decide +kernel)
set_option maxRecDepth 100000 in
theorem kw_498 : Cond.methodLink RX8 133 yX2_measureStep ∈ ms_B := ms_memB 498 (by decide +kernel) (by decide +kernel)
set_option maxRecDepth 100000 in
theorem kw_499 : Cond.instanceMethod yX2_measureStep ∈ ms_B := ms_memB 499 (by decide +kernel) (by decide +kernel)
set_option maxRecDepth 100000 in
theorem kw_500 : Cond.selects RX2 yX2_measureStep yX2_measureStep ∈ ms_B := ms_memB 500 (by decide +kernel) (by decide +kernel)
set_option maxRecDepth 100000 in
theorem kw_501 : Cond.code yX2_measureStep cX2_measureStep 5 (none) ∈ ms_B := ms_memB 501 (by decide +kernel) (by decide +kernel)
set_option maxRecDepth 100000 in
theorem kw_502 : Cond.methodLink RX8 110 yX8_giveName ∈ ms_B := ms_memB 502 (by decide +kernel) (by decide +kernel)
set_option maxRecDepth 100000 in
theorem kw_504 : Cond.instanceMethod yX8_giveName ∈ ms_B := ms_memB 504 (by decide +kernel) (by decide +kernel)
set_option maxRecDepth 100000 in
theorem kw_505 : Cond.code yX8_giveName cX8_giveName 2 (some .int) ∈ ms_B := ms_memB 505 (by decide +kernel) (by decide +kernel)
set_option maxRecDepth 100000 in
theorem kw_506 : Cond.methodLink RX8 100 yX8_readPower ∈ ms_B := ms_memB 506 (by decide +kernel) (by decide +kernel)
set_option maxRecDepth 100000 in
theorem kw_508 : Cond.instanceMethod yX8_readPower ∈ ms_B := ms_memB 508 (by decide +kernel) (by decide +kernel)
set_option maxRecDepth 100000 in
theorem kw_509 : Cond.code yX8_readPower cX8_readPower 8 (some .int) ∈ ms_B := ms_memB 509 (by decide +kernel) (by decide +kernel)
set_option maxRecDepth 100000 in
theorem kw_510 : Cond.methodLinkNest RX8 113 yX11_highestBitOf "PowerChains" ∈ ms_N := ms_memN 510 (by decide +kernel) (by decide +kernel)
set_option maxRecDepth 100000 in
theorem kw_511 : Cond.static yX11_highestBitOf ∈ ms_B := ms_memB 511 (by decide +kernel) (by decide +kernel)
set_option maxRecDepth 100000 in
theorem kw_512 : Cond.code yX11_highestBitOf cX11_highestBitOf 1 (some .int) ∈ ms_B := ms_memB 512 (by decide +kernel) (by decide +kernel)
set_option maxRecDepth 100000 in
theorem kw_513 : Cond.methodLink RX11 283 yJ6_numberOfLeadingZeros_0f7a4 ∈ ms_B := ms_memB 513 (by decide +kernel) (by decide +kernel)
set_option maxRecDepth 100000 in
theorem kw_514 : Cond.static yJ6_numberOfLeadingZeros_0f7a4 ∈ ms_B := ms_memB 514 (by decide +kernel) (by decide +kernel)
set_option maxRecDepth 100000 in
theorem kw_515 : Cond.code yJ6_numberOfLeadingZeros_0f7a4 cJ6_numberOfLeadingZeros_0f7a4 2 (some .int) ∈ ms_B := ms_memB 515 (by decide +kernel) (by decide +kernel)
set_option maxRecDepth 100000 in
theorem kw_516 : Cond.constant RJ6 264 (65536) ∈ ms_B := ms_memB 516 (by decide +kernel) (by decide +kernel)
set_option maxRecDepth 100000 in
theorem kw_517 : Cond.methodLink RX8 116 yJ6_bitCount_0f7a4 ∈ ms_B := ms_memB 517 (by decide +kernel) (by decide +kernel)
set_option maxRecDepth 100000 in
theorem kw_518 : Cond.static yJ6_bitCount_0f7a4 ∈ ms_B := ms_memB 518 (by decide +kernel) (by decide +kernel)
set_option maxRecDepth 100000 in
theorem kw_519 : Cond.code yJ6_bitCount_0f7a4 cJ6_bitCount_0f7a4 1 (some .int) ∈ ms_B := ms_memB 519 (by decide +kernel) (by decide +kernel)
set_option maxRecDepth 100000 in
theorem kw_520 : Cond.constant RJ6 265 (1431655765) ∈ ms_B := ms_memB 520 (by decide +kernel) (by decide +kernel)
set_option maxRecDepth 100000 in
theorem kw_521 : Cond.constant RJ6 266 (858993459) ∈ ms_B := ms_memB 521 (by decide +kernel) (by decide +kernel)
set_option maxRecDepth 100000 in
theorem kw_522 : Cond.constant RJ6 267 (252645135) ∈ ms_B := ms_memB 522 (by decide +kernel) (by decide +kernel)
set_option maxRecDepth 100000 in
theorem kw_523 : Cond.methodLink RX11 119 yX11_adopt ∈ ms_B := ms_memB 523 (by decide +kernel) (by decide +kernel)
set_option maxRecDepth 100000 in
theorem kw_525 : Cond.instanceMethod yX11_adopt ∈ ms_B := ms_memB 525 (by decide +kernel) (by decide +kernel)
set_option maxRecDepth 100000 in
theorem kw_526 : Cond.code yX11_adopt cX11_adopt 2 (some .int) ∈ ms_B := ms_memB 526 (by decide +kernel) (by decide +kernel)
set_option maxRecDepth 100000 in
theorem kw_527 : Cond.methodLink RX11 216 yX3_remember ∈ ms_B := ms_memB 527 (by decide +kernel) (by decide +kernel)
set_option maxRecDepth 100000 in
theorem kw_528 : Cond.instanceMethod yX3_remember ∈ ms_B := ms_memB 528 (by decide +kernel) (by decide +kernel)
set_option maxRecDepth 100000 in
theorem kw_529 : Cond.selects RX3 yX3_remember yX3_remember ∈ ms_B := ms_memB 529 (by decide +kernel) (by decide +kernel)
set_option maxRecDepth 100000 in
theorem kw_530 : Cond.code yX3_remember cX3_remember 2 (none) ∈ ms_B := ms_memB 530 (by decide +kernel) (by decide +kernel)
set_option maxRecDepth 100000 in
theorem kw_531 : Cond.methodLink RX3 25 yX4_copyFrom ∈ ms_B := ms_memB 531 (by decide +kernel) (by decide +kernel)
set_option maxRecDepth 100000 in
theorem kw_532 : Cond.instanceMethod yX4_copyFrom ∈ ms_B := ms_memB 532 (by decide +kernel) (by decide +kernel)
set_option maxRecDepth 100000 in
theorem kw_533 : Cond.selects RX4 yX4_copyFrom yX4_copyFrom ∈ ms_B := ms_memB 533 (by decide +kernel) (by decide +kernel)
set_option maxRecDepth 100000 in
theorem kw_534 : Cond.code yX4_copyFrom cX4_copyFrom 2 (none) ∈ ms_B := ms_memB 534 (by decide +kernel) (by decide +kernel)
set_option maxRecDepth 100000 in
theorem kw_535 : Cond.methodLink RX4 35 arraycopyName ∈ ms_B := ms_memB 535 (by decide +kernel) (by decide +kernel)
set_option maxRecDepth 100000 in
theorem kw_536 : Cond.static arraycopyName ∈ ms_B := ms_memB 536 (by decide +kernel) (by decide +kernel)
set_option maxRecDepth 100000 in
theorem kw_537 : Cond.native arraycopyName ∈ ms_B := ms_memB 537 (by decide +kernel) (by decide +kernel)
set_option maxRecDepth 100000 in
theorem kw_538 : Cond.methodLink RX11 242 yX4_copyFrom ∈ ms_B := ms_memB 538 (by decide +kernel) (by decide +kernel)
set_option maxRecDepth 100000 in
theorem kw_543 : Cond.methodLink RX11 132 yX4_stepsOfKind ∈ ms_B := ms_memB 543 (by decide +kernel) (by decide +kernel)
set_option maxRecDepth 100000 in
theorem kw_544 : Cond.instanceMethod yX4_stepsOfKind ∈ ms_B := ms_memB 544 (by decide +kernel) (by decide +kernel)
set_option maxRecDepth 100000 in
theorem kw_545 : Cond.selects RX4 yX4_stepsOfKind yX4_stepsOfKind ∈ ms_B := ms_memB 545 (by decide +kernel) (by decide +kernel)
set_option maxRecDepth 100000 in
theorem kw_546 : Cond.code yX4_stepsOfKind cX4_stepsOfKind 4 (some .int) ∈ ms_B := ms_memB 546 (by decide +kernel) (by decide +kernel)
set_option maxRecDepth 100000 in
theorem kw_547 : Cond.methodLink RX4 45 yX4_kind ∈ ms_B := ms_memB 547 (by decide +kernel) (by decide +kernel)
set_option maxRecDepth 100000 in
theorem kw_548 : Cond.instanceMethod yX4_kind ∈ ms_B := ms_memB 548 (by decide +kernel) (by decide +kernel)
set_option maxRecDepth 100000 in
theorem kw_549 : Cond.selects RX4 yX4_kind yX4_kind ∈ ms_B := ms_memB 549 (by decide +kernel) (by decide +kernel)
set_option maxRecDepth 100000 in
theorem kw_550 : Cond.code yX4_kind cX4_kind 2 (some .int) ∈ ms_B := ms_memB 550 (by decide +kernel) (by decide +kernel)
set_option maxRecDepth 100000 in
theorem kw_551 : Cond.methodLink RX4 41 yX4_isBase ∈ ms_B := ms_memB 551 (by decide +kernel) (by decide +kernel)
set_option maxRecDepth 100000 in
theorem kw_552 : Cond.instanceMethod yX4_isBase ∈ ms_B := ms_memB 552 (by decide +kernel) (by decide +kernel)
set_option maxRecDepth 100000 in
theorem kw_553 : Cond.selects RX4 yX4_isBase yX4_isBase ∈ ms_B := ms_memB 553 (by decide +kernel) (by decide +kernel)
set_option maxRecDepth 100000 in
theorem kw_554 : Cond.code yX4_isBase cX4_isBase 2 (some .boolean) ∈ ms_B := ms_memB 554 (by decide +kernel) (by decide +kernel)
set_option maxRecDepth 100000 in
theorem kw_555 : Cond.methodLink RX11 136 yX6_neededSteps ∈ ms_B := ms_memB 555 (by decide +kernel) (by decide +kernel)
set_option maxRecDepth 100000 in
theorem kw_556 : Cond.instanceMethod yX6_neededSteps ∈ ms_B := ms_memB 556 (by decide +kernel) (by decide +kernel)
set_option maxRecDepth 100000 in
theorem kw_557 : Cond.selects RX6 yX6_neededSteps yX6_neededSteps ∈ ms_B := ms_memB 557 (by decide +kernel) (by decide +kernel)
set_option maxRecDepth 100000 in
theorem kw_558 : Cond.code yX6_neededSteps cX6_neededSteps 4 (some .int) ∈ ms_B := ms_memB 558 (by decide +kernel) (by decide +kernel)
set_option maxRecDepth 100000 in
theorem kw_559 : Cond.methodLink RX6 55 yX6_markNeeded ∈ ms_B := ms_memB 559 (by decide +kernel) (by decide +kernel)
set_option maxRecDepth 100000 in
theorem kw_560 : Cond.instanceMethod yX6_markNeeded ∈ ms_B := ms_memB 560 (by decide +kernel) (by decide +kernel)
set_option maxRecDepth 100000 in
theorem kw_561 : Cond.selects RX6 yX6_markNeeded yX6_markNeeded ∈ ms_B := ms_memB 561 (by decide +kernel) (by decide +kernel)
set_option maxRecDepth 100000 in
theorem kw_562 : Cond.code yX6_markNeeded cX6_markNeeded 3 (none) ∈ ms_B := ms_memB 562 (by decide +kernel) (by decide +kernel)
set_option maxRecDepth 100000 in
theorem kw_563 : Cond.methodLink RX6 19 yX4_size ∈ ms_B := ms_memB 563 (by decide +kernel) (by decide +kernel)
set_option maxRecDepth 100000 in
theorem kw_564 : Cond.methodLink RX11 139 yX6_greatestDepth ∈ ms_B := ms_memB 564 (by decide +kernel) (by decide +kernel)
set_option maxRecDepth 100000 in
theorem kw_565 : Cond.instanceMethod yX6_greatestDepth ∈ ms_B := ms_memB 565 (by decide +kernel) (by decide +kernel)
set_option maxRecDepth 100000 in
theorem kw_566 : Cond.selects RX6 yX6_greatestDepth yX6_greatestDepth ∈ ms_B := ms_memB 566 (by decide +kernel) (by decide +kernel)
set_option maxRecDepth 100000 in
theorem kw_567 : Cond.code yX6_greatestDepth cX6_greatestDepth 4 (some .int) ∈ ms_B := ms_memB 567 (by decide +kernel) (by decide +kernel)
set_option maxRecDepth 100000 in
theorem kw_568 : Cond.methodLink RX6 41 yX6_measureDepths ∈ ms_B := ms_memB 568 (by decide +kernel) (by decide +kernel)
set_option maxRecDepth 100000 in
theorem kw_569 : Cond.instanceMethod yX6_measureDepths ∈ ms_B := ms_memB 569 (by decide +kernel) (by decide +kernel)
set_option maxRecDepth 100000 in
theorem kw_570 : Cond.selects RX6 yX6_measureDepths yX6_measureDepths ∈ ms_B := ms_memB 570 (by decide +kernel) (by decide +kernel)
set_option maxRecDepth 100000 in
theorem kw_571 : Cond.code yX6_measureDepths cX6_measureDepths 3 (none) ∈ ms_B := ms_memB 571 (by decide +kernel) (by decide +kernel)
set_option maxRecDepth 100000 in
theorem kw_572 : Cond.methodLink RX6 25 yX4_isBase ∈ ms_B := ms_memB 572 (by decide +kernel) (by decide +kernel)
set_option maxRecDepth 100000 in
theorem kw_573 : Cond.methodLink RX6 35 Lib.Math.max.name ∈ ms_B := ms_memB 573 (by decide +kernel) (by decide +kernel)
set_option maxRecDepth 100000 in
theorem kw_574 : Cond.static Lib.Math.max.name ∈ ms_B := ms_memB 574 (by decide +kernel) (by decide +kernel)
set_option maxRecDepth 100000 in
theorem kw_575 : Cond.code Lib.Math.max.name Lib.Math.max.code 2 (some .int) ∈ ms_B := ms_memB 575 (by decide +kernel) (by decide +kernel)
set_option maxRecDepth 100000 in
theorem kw_576 : Cond.methodLink RX11 145 yX11_filledShelves ∈ ms_B := ms_memB 576 (by decide +kernel) (by decide +kernel)
set_option maxRecDepth 100000 in
theorem kw_578 : Cond.instanceMethod yX11_filledShelves ∈ ms_B := ms_memB 578 (by decide +kernel) (by decide +kernel)
set_option maxRecDepth 100000 in
theorem kw_579 : Cond.code yX11_filledShelves cX11_filledShelves 3 (some .int) ∈ ms_B := ms_memB 579 (by decide +kernel) (by decide +kernel)
set_option maxRecDepth 100000 in
theorem kw_584 : Cond.methodLink RX11 155 yX4_has ∈ ms_B := ms_memB 584 (by decide +kernel) (by decide +kernel)
set_option maxRecDepth 100000 in
theorem kw_585 : Cond.instanceMethod yX4_has ∈ ms_B := ms_memB 585 (by decide +kernel) (by decide +kernel)
set_option maxRecDepth 100000 in
theorem kw_586 : Cond.selects RX4 yX4_has yX4_has ∈ ms_B := ms_memB 586 (by decide +kernel) (by decide +kernel)
set_option maxRecDepth 100000 in
theorem kw_587 : Cond.code yX4_has cX4_has 2 (some .boolean) ∈ ms_B := ms_memB 587 (by decide +kernel) (by decide +kernel)
set_option maxRecDepth 100000 in
theorem kw_588 : Cond.constantLong RX11 196 (-1) ∈ ms_B := ms_memB 588 (by decide +kernel) (by decide +kernel)
set_option maxRecDepth 100000 in
theorem kw_589 : Cond.methodLink RX11 187 yX2_measure ∈ ms_B := ms_memB 589 (by decide +kernel) (by decide +kernel)
set_option maxRecDepth 100000 in
theorem kw_590 : Cond.instanceMethod yX2_measure ∈ ms_B := ms_memB 590 (by decide +kernel) (by decide +kernel)
set_option maxRecDepth 100000 in
theorem kw_591 : Cond.selects RX2 yX2_measure yX2_measure ∈ ms_B := ms_memB 591 (by decide +kernel) (by decide +kernel)
set_option maxRecDepth 100000 in
theorem kw_592 : Cond.code yX2_measure cX2_measure 3 (none) ∈ ms_B := ms_memB 592 (by decide +kernel) (by decide +kernel)
set_option maxRecDepth 100000 in
theorem kw_593 : Cond.methodLink RX2 15 yX4_size ∈ ms_B := ms_memB 593 (by decide +kernel) (by decide +kernel)
set_option maxRecDepth 100000 in
theorem kw_594 : Cond.methodLink RX2 21 yX4_isBase ∈ ms_B := ms_memB 594 (by decide +kernel) (by decide +kernel)
set_option maxRecDepth 100000 in
theorem kw_595 : Cond.methodLink RX2 25 yX2_measureBase ∈ ms_B := ms_memB 595 (by decide +kernel) (by decide +kernel)
set_option maxRecDepth 100000 in
theorem kw_596 : Cond.methodLink RX2 36 yX2_measureStep ∈ ms_B := ms_memB 596 (by decide +kernel) (by decide +kernel)
set_option maxRecDepth 100000 in
theorem kw_597 : Cond.methodLink RX11 198 yX2_of ∈ ms_B := ms_memB 597 (by decide +kernel) (by decide +kernel)
set_option maxRecDepth 100000 in
theorem kw_606 : Cond.constant RX11 205 (1000000000) ∈ ms_B := ms_memB 606 (by decide +kernel) (by decide +kernel)
set_option maxRecDepth 100000 in
theorem kw_607 : Cond.methodLink RX11 206 yJ9_floorMod_7cf53 ∈ ms_B := ms_memB 607 (by decide +kernel) (by decide +kernel)
set_option maxRecDepth 100000 in
theorem kw_608 : Cond.static yJ9_floorMod_7cf53 ∈ ms_B := ms_memB 608 (by decide +kernel) (by decide +kernel)
set_option maxRecDepth 100000 in
theorem kw_609 : Cond.code yJ9_floorMod_7cf53 cJ9_floorMod_7cf53 3 (some .int) ∈ ms_B := ms_memB 609 (by decide +kernel) (by decide +kernel)
set_option maxRecDepth 100000 in
theorem kw_614 : Cond.methodLink RX11 212 yX2_fit ∈ ms_B := ms_memB 614 (by decide +kernel) (by decide +kernel)
set_option maxRecDepth 100000 in
theorem kw_615 : Cond.methodLink RX11 219 yX4_append ∈ ms_B := ms_memB 615 (by decide +kernel) (by decide +kernel)
set_option maxRecDepth 100000 in
theorem kw_620 : Cond.methodLink RX11 221 Lib.Math.max.name ∈ ms_B := ms_memB 620 (by decide +kernel) (by decide +kernel)
set_option maxRecDepth 100000 in
theorem kw_625 : Cond.methodLink RX11 181 yX6_markNeeded ∈ ms_B := ms_memB 625 (by decide +kernel) (by decide +kernel)
set_option maxRecDepth 100000 in
theorem kw_626 : Cond.methodLink RX11 224 yX4_size ∈ ms_B := ms_memB 626 (by decide +kernel) (by decide +kernel)
set_option maxRecDepth 100000 in
theorem kw_627 : Cond.methodLink RX11 162 yX4_isBase ∈ ms_B := ms_memB 627 (by decide +kernel) (by decide +kernel)
set_option maxRecDepth 100000 in
theorem kw_628 : Cond.methodLink RX11 227 yX11_dropSteps ∈ ms_B := ms_memB 628 (by decide +kernel) (by decide +kernel)
set_option maxRecDepth 100000 in
theorem kw_630 : Cond.instanceMethod yX11_dropSteps ∈ ms_B := ms_memB 630 (by decide +kernel) (by decide +kernel)
set_option maxRecDepth 100000 in
theorem kw_631 : Cond.code yX11_dropSteps cX11_dropSteps 2 (some .int) ∈ ms_B := ms_memB 631 (by decide +kernel) (by decide +kernel)
set_option maxRecDepth 100000 in
theorem kw_632 : Cond.methodLink RX11 279 yX4_compact ∈ ms_B := ms_memB 632 (by decide +kernel) (by decide +kernel)
set_option maxRecDepth 100000 in
theorem kw_633 : Cond.instanceMethod yX4_compact ∈ ms_B := ms_memB 633 (by decide +kernel) (by decide +kernel)
set_option maxRecDepth 100000 in
theorem kw_634 : Cond.selects RX4 yX4_compact yX4_compact ∈ ms_B := ms_memB 634 (by decide +kernel) (by decide +kernel)
set_option maxRecDepth 100000 in
theorem kw_635 : Cond.code yX4_compact cX4_compact 6 (some .int) ∈ ms_B := ms_memB 635 (by decide +kernel) (by decide +kernel)
set_option maxRecDepth 100000 in
theorem kw_640 : Cond.methodLink RX11 190 yX2_firstAlike ∈ ms_B := ms_memB 640 (by decide +kernel) (by decide +kernel)
set_option maxRecDepth 100000 in
theorem kw_641 : Cond.instanceMethod yX2_firstAlike ∈ ms_B := ms_memB 641 (by decide +kernel) (by decide +kernel)
set_option maxRecDepth 100000 in
theorem kw_642 : Cond.selects RX2 yX2_firstAlike yX2_firstAlike ∈ ms_B := ms_memB 642 (by decide +kernel) (by decide +kernel)
set_option maxRecDepth 100000 in
theorem kw_643 : Cond.code yX2_firstAlike cX2_firstAlike 3 (some .int) ∈ ms_B := ms_memB 643 (by decide +kernel) (by decide +kernel)
set_option maxRecDepth 100000 in
theorem kw_644 : Cond.methodLink RX2 46 yX2_alike ∈ ms_B := ms_memB 644 (by decide +kernel) (by decide +kernel)
set_option maxRecDepth 100000 in
theorem kw_646 : Cond.instanceMethod yX2_alike ∈ ms_B := ms_memB 646 (by decide +kernel) (by decide +kernel)
set_option maxRecDepth 100000 in
theorem kw_647 : Cond.code yX2_alike cX2_alike 4 (some .boolean) ∈ ms_B := ms_memB 647 (by decide +kernel) (by decide +kernel)
set_option maxRecDepth 100000 in
theorem kw_652 : Cond.methodLink RX11 230 yX10_turn ∈ ms_B := ms_memB 652 (by decide +kernel) (by decide +kernel)
set_option maxRecDepth 100000 in
theorem kw_653 : Cond.instanceMethod yX10_turn ∈ ms_B := ms_memB 653 (by decide +kernel) (by decide +kernel)
set_option maxRecDepth 100000 in
theorem kw_654 : Cond.selects RX10 yX10_turn yX10_turn ∈ ms_B := ms_memB 654 (by decide +kernel) (by decide +kernel)
set_option maxRecDepth 100000 in
theorem kw_655 : Cond.code yX10_turn cX10_turn 4 (some .boolean) ∈ ms_B := ms_memB 655 (by decide +kernel) (by decide +kernel)
set_option maxRecDepth 100000 in
theorem kw_656 : Cond.methodLink RX10 21 yX4_begin ∈ ms_B := ms_memB 656 (by decide +kernel) (by decide +kernel)
set_option maxRecDepth 100000 in
theorem kw_657 : Cond.methodLink RX10 25 yX4_size ∈ ms_B := ms_memB 657 (by decide +kernel) (by decide +kernel)
set_option maxRecDepth 100000 in
theorem kw_658 : Cond.methodLink RX10 29 yX10_gatherWants ∈ ms_B := ms_memB 658 (by decide +kernel) (by decide +kernel)
set_option maxRecDepth 100000 in
theorem kw_660 : Cond.instanceMethod yX10_gatherWants ∈ ms_B := ms_memB 660 (by decide +kernel) (by decide +kernel)
set_option maxRecDepth 100000 in
theorem kw_661 : Cond.code yX10_gatherWants cX10_gatherWants 5 (some .boolean) ∈ ms_B := ms_memB 661 (by decide +kernel) (by decide +kernel)
set_option maxRecDepth 100000 in
theorem kw_662 : Cond.methodLink RX10 43 yX10_join ∈ ms_B := ms_memB 662 (by decide +kernel) (by decide +kernel)
set_option maxRecDepth 100000 in
theorem kw_664 : Cond.instanceMethod yX10_join ∈ ms_B := ms_memB 664 (by decide +kernel) (by decide +kernel)
set_option maxRecDepth 100000 in
theorem kw_665 : Cond.code yX10_join cX10_join 4 (some .boolean) ∈ ms_B := ms_memB 665 (by decide +kernel) (by decide +kernel)
set_option maxRecDepth 100000 in
theorem kw_666 : Cond.methodLink RX10 62 yX4_append ∈ ms_B := ms_memB 666 (by decide +kernel) (by decide +kernel)
set_option maxRecDepth 100000 in
theorem kw_667 : Cond.methodLink RX10 33 yX10_gatherSteps ∈ ms_B := ms_memB 667 (by decide +kernel) (by decide +kernel)
set_option maxRecDepth 100000 in
theorem kw_669 : Cond.instanceMethod yX10_gatherSteps ∈ ms_B := ms_memB 669 (by decide +kernel) (by decide +kernel)
set_option maxRecDepth 100000 in
theorem kw_670 : Cond.code yX10_gatherSteps cX10_gatherSteps 5 (some .boolean) ∈ ms_B := ms_memB 670 (by decide +kernel) (by decide +kernel)
set_option maxRecDepth 100000 in
theorem kw_671 : Cond.methodLink RX10 50 Lib.Math.max.name ∈ ms_B := ms_memB 671 (by decide +kernel) (by decide +kernel)
set_option maxRecDepth 100000 in
theorem kw_672 : Cond.methodLink RX10 36 yX10_wantBases ∈ ms_B := ms_memB 672 (by decide +kernel) (by decide +kernel)
set_option maxRecDepth 100000 in
theorem kw_674 : Cond.instanceMethod yX10_wantBases ∈ ms_B := ms_memB 674 (by decide +kernel) (by decide +kernel)
set_option maxRecDepth 100000 in
theorem kw_675 : Cond.code yX10_wantBases cX10_wantBases 4 (some .boolean) ∈ ms_B := ms_memB 675 (by decide +kernel) (by decide +kernel)
set_option maxRecDepth 100000 in
theorem kw_684 : Cond.methodLink RX11 234 yX1_tell ∈ ms_B := ms_memB 684 (by decide +kernel) (by decide +kernel)
set_option maxRecDepth 100000 in
theorem kw_685 : Cond.instanceMethod yX1_tell ∈ ms_B := ms_memB 685 (by decide +kernel) (by decide +kernel)
set_option maxRecDepth 100000 in
theorem kw_686 : Cond.selects RX1 yX1_tell yX1_tell ∈ ms_B := ms_memB 686 (by decide +kernel) (by decide +kernel)
set_option maxRecDepth 100000 in
theorem kw_687 : Cond.code yX1_tell cX1_tell 5 (none) ∈ ms_B := ms_memB 687 (by decide +kernel) (by decide +kernel)
set_option maxRecDepth 100000 in
theorem kw_688 : Cond.methodLink RX11 238 yX1_build ∈ ms_B := ms_memB 688 (by decide +kernel) (by decide +kernel)
set_option maxRecDepth 100000 in
theorem kw_689 : Cond.instanceMethod yX1_build ∈ ms_B := ms_memB 689 (by decide +kernel) (by decide +kernel)
set_option maxRecDepth 100000 in
theorem kw_690 : Cond.selects RX1 yX1_build yX1_build ∈ ms_B := ms_memB 690 (by decide +kernel) (by decide +kernel)
set_option maxRecDepth 100000 in
theorem kw_691 : Cond.code yX1_build cX1_build 4 (some .boolean) ∈ ms_B := ms_memB 691 (by decide +kernel) (by decide +kernel)
set_option maxRecDepth 100000 in
theorem kw_692 : Cond.methodLink RX1 25 yX1_put ∈ ms_B := ms_memB 692 (by decide +kernel) (by decide +kernel)
set_option maxRecDepth 100000 in
theorem kw_694 : Cond.instanceMethod yX1_put ∈ ms_B := ms_memB 694 (by decide +kernel) (by decide +kernel)
set_option maxRecDepth 100000 in
theorem kw_695 : Cond.code yX1_put cX1_put 4 (some .boolean) ∈ ms_B := ms_memB 695 (by decide +kernel) (by decide +kernel)
set_option maxRecDepth 100000 in
theorem kw_696 : Cond.methodLink RX1 41 yX1_placeOf ∈ ms_B := ms_memB 696 (by decide +kernel) (by decide +kernel)
set_option maxRecDepth 100000 in
theorem kw_698 : Cond.instanceMethod yX1_placeOf ∈ ms_B := ms_memB 698 (by decide +kernel) (by decide +kernel)
set_option maxRecDepth 100000 in
theorem kw_699 : Cond.code yX1_placeOf cX1_placeOf 3 (some .int) ∈ ms_B := ms_memB 699 (by decide +kernel) (by decide +kernel)
set_option maxRecDepth 100000 in
theorem kw_700 : Cond.methodLink RX1 29 yX1_descend ∈ ms_B := ms_memB 700 (by decide +kernel) (by decide +kernel)
set_option maxRecDepth 100000 in
theorem kw_702 : Cond.instanceMethod yX1_descend ∈ ms_B := ms_memB 702 (by decide +kernel) (by decide +kernel)
set_option maxRecDepth 100000 in
theorem kw_703 : Cond.code yX1_descend cX1_descend 6 (some .boolean) ∈ ms_B := ms_memB 703 (by decide +kernel) (by decide +kernel)
set_option maxRecDepth 100000 in
theorem kw_704 : Cond.methodLink RX1 37 yX1_greaterPart ∈ ms_B := ms_memB 704 (by decide +kernel) (by decide +kernel)
set_option maxRecDepth 100000 in
theorem kw_705 : Cond.static yX1_greaterPart ∈ ms_B := ms_memB 705 (by decide +kernel) (by decide +kernel)
set_option maxRecDepth 100000 in
theorem kw_706 : Cond.code yX1_greaterPart cX1_greaterPart 2 (some .int) ∈ ms_B := ms_memB 706 (by decide +kernel) (by decide +kernel)
set_option maxRecDepth 100000 in
theorem kw_707 : Cond.methodLink RX1 33 yX1_write ∈ ms_B := ms_memB 707 (by decide +kernel) (by decide +kernel)
set_option maxRecDepth 100000 in
theorem kw_709 : Cond.instanceMethod yX1_write ∈ ms_B := ms_memB 709 (by decide +kernel) (by decide +kernel)
set_option maxRecDepth 100000 in
theorem kw_710 : Cond.code yX1_write cX1_write 4 (none) ∈ ms_B := ms_memB 710 (by decide +kernel) (by decide +kernel)
set_option maxRecDepth 100000 in
theorem kw_711 : Cond.methodLink RX1 45 yX4_begin ∈ ms_B := ms_memB 711 (by decide +kernel) (by decide +kernel)
set_option maxRecDepth 100000 in
theorem kw_712 : Cond.methodLink RX1 51 yX4_append ∈ ms_B := ms_memB 712 (by decide +kernel) (by decide +kernel)
set_option maxRecDepth 100000 in
theorem kw_725 : Cond.methodLink RX11 245 yX11_holds ∈ ms_B := ms_memB 725 (by decide +kernel) (by decide +kernel)
set_option maxRecDepth 100000 in
theorem kw_727 : Cond.instanceMethod yX11_holds ∈ ms_B := ms_memB 727 (by decide +kernel) (by decide +kernel)
set_option maxRecDepth 100000 in
theorem kw_728 : Cond.code yX11_holds cX11_holds 2 (some .boolean) ∈ ms_B := ms_memB 728 (by decide +kernel) (by decide +kernel)
set_option maxRecDepth 100000 in
theorem kw_733 : Cond.methodLink RX11 248 yX11_comesToTheSame ∈ ms_B := ms_memB 733 (by decide +kernel) (by decide +kernel)
set_option maxRecDepth 100000 in
theorem kw_735 : Cond.instanceMethod yX11_comesToTheSame ∈ ms_B := ms_memB 735 (by decide +kernel) (by decide +kernel)
set_option maxRecDepth 100000 in
theorem kw_736 : Cond.code yX11_comesToTheSame cX11_comesToTheSame 6 (some .boolean) ∈ ms_B := ms_memB 736 (by decide +kernel) (by decide +kernel)
set_option maxRecDepth 100000 in
theorem kw_741 : Cond.methodLink RX11 252 yX3_takeBack ∈ ms_B := ms_memB 741 (by decide +kernel) (by decide +kernel)
set_option maxRecDepth 100000 in
theorem kw_742 : Cond.instanceMethod yX3_takeBack ∈ ms_B := ms_memB 742 (by decide +kernel) (by decide +kernel)
set_option maxRecDepth 100000 in
theorem kw_743 : Cond.selects RX3 yX3_takeBack yX3_takeBack ∈ ms_B := ms_memB 743 (by decide +kernel) (by decide +kernel)
set_option maxRecDepth 100000 in
theorem kw_744 : Cond.code yX3_takeBack cX3_takeBack 2 (some .int) ∈ ms_B := ms_memB 744 (by decide +kernel) (by decide +kernel)
set_option maxRecDepth 100000 in
theorem kw_749 : Cond.methodLink RX11 255 yX0_make ∈ ms_B := ms_memB 749 (by decide +kernel) (by decide +kernel)
set_option maxRecDepth 100000 in
theorem kw_750 : Cond.instanceMethod yX0_make ∈ ms_B := ms_memB 750 (by decide +kernel) (by decide +kernel)
set_option maxRecDepth 100000 in
theorem kw_751 : Cond.selects RX0 yX0_make yX0_make ∈ ms_B := ms_memB 751 (by decide +kernel) (by decide +kernel)
set_option maxRecDepth 100000 in
theorem kw_752 : Cond.code yX0_make cX0_make 3 (some .boolean) ∈ ms_B := ms_memB 752 (by decide +kernel) (by decide +kernel)
set_option maxRecDepth 100000 in
theorem kw_753 : Cond.methodLink RX0 19 yX0_put ∈ ms_B := ms_memB 753 (by decide +kernel) (by decide +kernel)
set_option maxRecDepth 100000 in
theorem kw_755 : Cond.instanceMethod yX0_put ∈ ms_B := ms_memB 755 (by decide +kernel) (by decide +kernel)
set_option maxRecDepth 100000 in
theorem kw_756 : Cond.code yX0_put cX0_put 2 (none) ∈ ms_B := ms_memB 756 (by decide +kernel) (by decide +kernel)
set_option maxRecDepth 100000 in
theorem kw_757 : Cond.methodLink RX0 23 yX0_goBinary ∈ ms_B := ms_memB 757 (by decide +kernel) (by decide +kernel)
set_option maxRecDepth 100000 in
theorem kw_759 : Cond.instanceMethod yX0_goBinary ∈ ms_B := ms_memB 759 (by decide +kernel) (by decide +kernel)
set_option maxRecDepth 100000 in
theorem kw_760 : Cond.code yX0_goBinary cX0_goBinary 4 (none) ∈ ms_B := ms_memB 760 (by decide +kernel) (by decide +kernel)
set_option maxRecDepth 100000 in
theorem kw_761 : Cond.methodLinkNest RX0 36 yX11_highestBitOf "PowerChains" ∈ ms_N := ms_memN 761 (by decide +kernel) (by decide +kernel)
set_option maxRecDepth 100000 in
theorem kw_762 : Cond.methodLink RX0 26 yX0_goRight ∈ ms_B := ms_memB 762 (by decide +kernel) (by decide +kernel)
set_option maxRecDepth 100000 in
theorem kw_764 : Cond.instanceMethod yX0_goRight ∈ ms_B := ms_memB 764 (by decide +kernel) (by decide +kernel)
set_option maxRecDepth 100000 in
theorem kw_765 : Cond.code yX0_goRight cX0_goRight 4 (none) ∈ ms_B := ms_memB 765 (by decide +kernel) (by decide +kernel)
set_option maxRecDepth 100000 in
theorem kw_766 : Cond.methodLink RX0 29 yX0_goFactor ∈ ms_B := ms_memB 766 (by decide +kernel) (by decide +kernel)
set_option maxRecDepth 100000 in
theorem kw_767 : Cond.static yX0_goFactor ∈ ms_B := ms_memB 767 (by decide +kernel) (by decide +kernel)
set_option maxRecDepth 100000 in
theorem kw_768 : Cond.code yX0_goFactor cX0_goFactor 5 (none) ∈ ms_B := ms_memB 768 (by decide +kernel) (by decide +kernel)
set_option maxRecDepth 100000 in
theorem kw_769 : Cond.methodLink RX0 40 yX0_leastPrimeOf ∈ ms_B := ms_memB 769 (by decide +kernel) (by decide +kernel)
set_option maxRecDepth 100000 in
theorem kw_770 : Cond.static yX0_leastPrimeOf ∈ ms_B := ms_memB 770 (by decide +kernel) (by decide +kernel)
set_option maxRecDepth 100000 in
theorem kw_771 : Cond.code yX0_leastPrimeOf cX0_leastPrimeOf 2 (some .int) ∈ ms_B := ms_memB 771 (by decide +kernel) (by decide +kernel)
set_option maxRecDepth 100000 in
theorem kw_772 : Cond.methodLink RX0 33 yX0_goThrees ∈ ms_B := ms_memB 772 (by decide +kernel) (by decide +kernel)
set_option maxRecDepth 100000 in
theorem kw_774 : Cond.instanceMethod yX0_goThrees ∈ ms_B := ms_memB 774 (by decide +kernel) (by decide +kernel)
set_option maxRecDepth 100000 in
theorem kw_775 : Cond.code yX0_goThrees cX0_goThrees 4 (none) ∈ ms_B := ms_memB 775 (by decide +kernel) (by decide +kernel)
set_option maxRecDepth 100000 in
theorem kw_788 : Cond.methodLink RX11 263 yX0_eachIsOfTheOneAhead ∈ ms_B := ms_memB 788 (by decide +kernel) (by decide +kernel)
set_option maxRecDepth 100000 in
theorem kw_789 : Cond.instanceMethod yX0_eachIsOfTheOneAhead ∈ ms_B := ms_memB 789 (by decide +kernel) (by decide +kernel)
set_option maxRecDepth 100000 in
theorem kw_790 : Cond.selects RX0 yX0_eachIsOfTheOneAhead yX0_eachIsOfTheOneAhead ∈ ms_B := ms_memB 790 (by decide +kernel) (by decide +kernel)
set_option maxRecDepth 100000 in
theorem kw_791 : Cond.code yX0_eachIsOfTheOneAhead cX0_eachIsOfTheOneAhead 2 (some .boolean) ∈ ms_B := ms_memB 791 (by decide +kernel) (by decide +kernel)
set_option maxRecDepth 100000 in
theorem kw_792 : Cond.methodLink RX0 43 yX0_standsAheadOf ∈ ms_B := ms_memB 792 (by decide +kernel) (by decide +kernel)
set_option maxRecDepth 100000 in
theorem kw_794 : Cond.instanceMethod yX0_standsAheadOf ∈ ms_B := ms_memB 794 (by decide +kernel) (by decide +kernel)
set_option maxRecDepth 100000 in
theorem kw_795 : Cond.code yX0_standsAheadOf cX0_standsAheadOf 4 (some .boolean) ∈ ms_B := ms_memB 795 (by decide +kernel) (by decide +kernel)
set_option maxRecDepth 100000 in
theorem kw_800 : Cond.methodLink RX11 267 yX11_bound ∈ ms_B := ms_memB 800 (by decide +kernel) (by decide +kernel)
set_option maxRecDepth 100000 in
theorem kw_801 : Cond.static yX11_bound ∈ ms_B := ms_memB 801 (by decide +kernel) (by decide +kernel)
set_option maxRecDepth 100000 in
theorem kw_802 : Cond.code yX11_bound cX11_bound 4 (some .int) ∈ ms_B := ms_memB 802 (by decide +kernel) (by decide +kernel)
set_option maxRecDepth 100000 in
theorem kw_803 : Cond.methodLink RX11 288 yX11_highestBitOf ∈ ms_B := ms_memB 803 (by decide +kernel) (by decide +kernel)
set_option maxRecDepth 100000 in
theorem kw_804 : Cond.methodLink RX11 291 yJ6_bitCount_0f7a4 ∈ ms_B := ms_memB 804 (by decide +kernel) (by decide +kernel)
set_option maxRecDepth 100000 in
theorem kw_809 : Cond.constant RX11 270 (100000) ∈ ms_B := ms_memB 809 (by decide +kernel) (by decide +kernel)
set_option maxRecDepth 100000 in
theorem kw_810 : Cond.methodLink RX11 271 yX5_seek ∈ ms_B := ms_memB 810 (by decide +kernel) (by decide +kernel)
set_option maxRecDepth 100000 in
theorem kw_811 : Cond.instanceMethod yX5_seek ∈ ms_B := ms_memB 811 (by decide +kernel) (by decide +kernel)
set_option maxRecDepth 100000 in
theorem kw_812 : Cond.selects RX5 yX5_seek yX5_seek ∈ ms_B := ms_memB 812 (by decide +kernel) (by decide +kernel)
set_option maxRecDepth 100000 in
theorem kw_813 : Cond.code yX5_seek cX5_seek 5 (some .boolean) ∈ ms_B := ms_memB 813 (by decide +kernel) (by decide +kernel)
set_option maxRecDepth 100000 in
theorem kw_814 : Cond.methodLinkNest RX5 28 yX11_bound "PowerChains" ∈ ms_N := ms_memN 814 (by decide +kernel) (by decide +kernel)
set_option maxRecDepth 100000 in
theorem kw_815 : Cond.methodLink RX5 35 yX5_visit ∈ ms_B := ms_memB 815 (by decide +kernel) (by decide +kernel)
set_option maxRecDepth 100000 in
theorem kw_816 : Cond.static yX5_visit ∈ ms_B := ms_memB 816 (by decide +kernel) (by decide +kernel)
set_option maxRecDepth 100000 in
theorem kw_817 : Cond.code yX5_visit cX5_visit 6 (some .int) ∈ ms_B := ms_memB 817 (by decide +kernel) (by decide +kernel)
set_option maxRecDepth 100000 in
theorem kw_826 : Cond.methodLink RX11 275 yX11_isSumOfTwoAhead ∈ ms_B := ms_memB 826 (by decide +kernel) (by decide +kernel)
set_option maxRecDepth 100000 in
theorem kw_827 : Cond.static yX11_isSumOfTwoAhead ∈ ms_B := ms_memB 827 (by decide +kernel) (by decide +kernel)
set_option maxRecDepth 100000 in
theorem kw_828 : Cond.code yX11_isSumOfTwoAhead cX11_isSumOfTwoAhead 4 (some .boolean) ∈ ms_B := ms_memB 828 (by decide +kernel) (by decide +kernel)
set_option maxRecDepth 100000 in
theorem kw_898 : Cond.methodLink RX11 171 yX4_kind ∈ ms_B := ms_memB 898 (by decide +kernel) (by decide +kernel)
set_option maxRecDepth 100000 in
theorem kw_899 : Cond.methodLink RX11 174 yX6_measureDepths ∈ ms_B := ms_memB 899 (by decide +kernel) (by decide +kernel)
set_option maxRecDepth 100000 in
theorem kw_900 : Cond.methodLink RX11 193 yX4_uses ∈ ms_B := ms_memB 900 (by decide +kernel) (by decide +kernel)
set_option maxRecDepth 100000 in
theorem kw_901 : Cond.instanceMethod yX4_uses ∈ ms_B := ms_memB 901 (by decide +kernel) (by decide +kernel)
set_option maxRecDepth 100000 in
theorem kw_902 : Cond.selects RX4 yX4_uses yX4_uses ∈ ms_B := ms_memB 902 (by decide +kernel) (by decide +kernel)
set_option maxRecDepth 100000 in
theorem kw_903 : Cond.code yX4_uses cX4_uses 4 (some .int) ∈ ms_B := ms_memB 903 (by decide +kernel) (by decide +kernel)
set_option maxRecDepth 100000 in
theorem kw_912 : Cond.methodLink RX12 56 yX12_four ∈ ms_B := ms_memB 912 (by decide +kernel) (by decide +kernel)
set_option maxRecDepth 100000 in
theorem kw_914 : Cond.instanceMethod yX12_four ∈ ms_B := ms_memB 914 (by decide +kernel) (by decide +kernel)
set_option maxRecDepth 100000 in
theorem kw_916 : Cond.code yX12_four cX12_four 3 (none) ∈ ms_B := ms_memB 916 (by decide +kernel) (by decide +kernel)
set_option maxRecDepth 100000 in
theorem kw_921 : Cond.methodLink RX12 176 Lib.objectInit ∈ ms_B := ms_memB 921 (by decide +kernel) (by decide +kernel)
set_option maxRecDepth 100000 in
theorem kw_922 : Cond.fieldLink RX12 1 RX12 "thrown" "I" ∈ ms_B := ms_memB 922 (by decide +kernel) (by decide +kernel)
set_option maxRecDepth 100000 in
theorem kw_923 : Cond.fieldLink RX12 14 RX12 "now" "[I" ∈ ms_B := ms_memB 923 (by decide +kernel) (by decide +kernel)
set_option maxRecDepth 100000 in
theorem kw_924 : Cond.fieldLink RX12 25 RX12 "then" "[I" ∈ ms_B := ms_memB 924 (by decide +kernel) (by decide +kernel)
set_option maxRecDepth 100000 in
theorem kw_925 : Cond.fieldLink RX12 10 RX12 "backs" "[I" ∈ ms_B := ms_memB 925 (by decide +kernel) (by decide +kernel)
set_option maxRecDepth 100000 in
theorem kw_926 : Cond.fieldLink RX12 7 RX12 "backMany" "I" ∈ ms_B := ms_memB 926 (by decide +kernel) (by decide +kernel)
set_option maxRecDepth 100000 in
theorem kw_927 : Cond.fieldLink RX12 181 RX12 "shelves" "[I" ∈ ms_B := ms_memB 927 (by decide +kernel) (by decide +kernel)
set_option maxRecDepth 100000 in
theorem kw_928 : Cond.fieldLink RX12 184 RX12 "isFull" "[Z" ∈ ms_B := ms_memB 928 (by decide +kernel) (by decide +kernel)
set_option maxRecDepth 100000 in
theorem kw_929 : Cond.fieldLink RX12 32 RX12 "powers" "[J" ∈ ms_B := ms_memB 929 (by decide +kernel) (by decide +kernel)
set_option maxRecDepth 100000 in
theorem kw_930 : Cond.fieldLink RX12 60 RX12 "tape" "[B" ∈ ms_B := ms_memB 930 (by decide +kernel) (by decide +kernel)
set_option maxRecDepth 100000 in
theorem kw_931 : Cond.fieldLink RX12 53 RX12 "taped" "I" ∈ ms_B := ms_memB 931 (by decide +kernel) (by decide +kernel)
set_option maxRecDepth 100000 in
theorem kw_932 : Cond.fieldLink RX12 64 RX12 "size" "I" ∈ ms_B := ms_memB 932 (by decide +kernel) (by decide +kernel)
set_option maxRecDepth 100000 in
theorem kw_933 : Cond.fieldLink RX12 74 RX12 "from" "I" ∈ ms_B := ms_memB 933 (by decide +kernel) (by decide +kernel)
set_option maxRecDepth 100000 in
theorem kw_934 : Cond.fieldLink RX12 67 RX12 "next" "I" ∈ ms_B := ms_memB 934 (by decide +kernel) (by decide +kernel)
set_option maxRecDepth 100000 in
theorem kw_935 : Cond.fieldLink RX12 86 RX12 "token" "I" ∈ ms_B := ms_memB 935 (by decide +kernel) (by decide +kernel)
set_option maxRecDepth 100000 in
theorem kw_936 : Cond.fieldLink RX12 77 RX12 "value" "I" ∈ ms_B := ms_memB 936 (by decide +kernel) (by decide +kernel)
set_option maxRecDepth 100000 in
theorem kw_937 : Cond.fieldLink RX12 80 RX12 "word" "I" ∈ ms_B := ms_memB 937 (by decide +kernel) (by decide +kernel)
set_option maxRecDepth 100000 in
theorem kw_938 : Cond.fieldLink RX12 83 RX12 "sign" "I" ∈ ms_B := ms_memB 938 (by decide +kernel) (by decide +kernel)
set_option maxRecDepth 100000 in
theorem kw_939 : Cond.fieldLink RX12 101 RX12 "fault" "I" ∈ ms_B := ms_memB 939 (by decide +kernel) (by decide +kernel)
set_option maxRecDepth 100000 in
theorem kw_940 : Cond.fieldLink RX12 113 RX12 "names" "[I" ∈ ms_B := ms_memB 940 (by decide +kernel) (by decide +kernel)
set_option maxRecDepth 100000 in
theorem kw_941 : Cond.fieldLink RX12 116 RX12 "named" "[I" ∈ ms_B := ms_memB 941 (by decide +kernel) (by decide +kernel)
set_option maxRecDepth 100000 in
theorem kw_942 : Cond.fieldLink RX12 110 RX12 "nameMany" "I" ∈ ms_B := ms_memB 942 (by decide +kernel) (by decide +kernel)
set_option maxRecDepth 100000 in
theorem kw_943 : Cond.fieldLink RX12 139 RX12 "seen" "I" ∈ ms_B := ms_memB 943 (by decide +kernel) (by decide +kernel)
set_option maxRecDepth 100000 in
theorem kw_944 : Cond.fieldLink RX12 142 RX12 "someLeft" "[I" ∈ ms_B := ms_memB 944 (by decide +kernel) (by decide +kernel)
set_option maxRecDepth 100000 in
theorem kw_945 : Cond.fieldLink RX12 148 RX12 "someRight" "[I" ∈ ms_B := ms_memB 945 (by decide +kernel) (by decide +kernel)
set_option maxRecDepth 100000 in
theorem kw_946 : Cond.fieldLink RX12 145 RX12 "some" "I" ∈ ms_B := ms_memB 946 (by decide +kernel) (by decide +kernel)
set_option maxRecDepth 100000 in
theorem kw_947 : Cond.fieldLink RX12 188 RX12 "isNeeded" "[Z" ∈ ms_B := ms_memB 947 (by decide +kernel) (by decide +kernel)
set_option maxRecDepth 100000 in
theorem kw_948 : Cond.fieldLink RX12 191 RX12 "depths" "[I" ∈ ms_B := ms_memB 948 (by decide +kernel) (by decide +kernel)
set_option maxRecDepth 100000 in
theorem kw_949 : Cond.fieldLink RX12 194 RX12 "ran" "[J" ∈ ms_B := ms_memB 949 (by decide +kernel) (by decide +kernel)
set_option maxRecDepth 100000 in
theorem kw_950 : Cond.fieldLink RX12 197 RX12 "isThen" "[I" ∈ ms_B := ms_memB 950 (by decide +kernel) (by decide +kernel)
set_option maxRecDepth 100000 in
theorem kw_951 : Cond.fieldLink RX12 200 RX12 "came" "[I" ∈ ms_B := ms_memB 951 (by decide +kernel) (by decide +kernel)
set_option maxRecDepth 100000 in
theorem kw_952 : Cond.fieldLink RX12 203 RX12 "other" "[I" ∈ ms_B := ms_memB 952 (by decide +kernel) (by decide +kernel)
set_option maxRecDepth 100000 in
theorem kw_953 : Cond.fieldLink RX12 206 RX12 "isIn" "[Z" ∈ ms_B := ms_memB 953 (by decide +kernel) (by decide +kernel)
set_option maxRecDepth 100000 in
theorem kw_954 : Cond.fieldLink RX12 209 RX12 "greater" "[I" ∈ ms_B := ms_memB 954 (by decide +kernel) (by decide +kernel)
set_option maxRecDepth 100000 in
theorem kw_955 : Cond.fieldLink RX12 212 RX12 "lesser" "[I" ∈ ms_B := ms_memB 955 (by decide +kernel) (by decide +kernel)
set_option maxRecDepth 100000 in
theorem kw_956 : Cond.fieldLink RX12 215 RX12 "nodeOf" "[I" ∈ ms_B := ms_memB 956 (by decide +kernel) (by decide +kernel)
set_option maxRecDepth 100000 in
theorem kw_957 : Cond.fieldLink RX12 218 RX12 "wantedPowers" "[J" ∈ ms_B := ms_memB 957 (by decide +kernel) (by decide +kernel)
set_option maxRecDepth 100000 in
theorem kw_958 : Cond.fieldLink RX12 221 RX12 "isMarked" "[Z" ∈ ms_B := ms_memB 958 (by decide +kernel) (by decide +kernel)
set_option maxRecDepth 100000 in
theorem kw_959 : Cond.fieldLink RX12 224 RX12 "chain" "[I" ∈ ms_B := ms_memB 959 (by decide +kernel) (by decide +kernel)
set_option maxRecDepth 100000 in
theorem kw_960 : Cond.fieldLink RX12 328 RX12 "chainMany" "I" ∈ ms_B := ms_memB 960 (by decide +kernel) (by decide +kernel)
set_option maxRecDepth 100000 in
theorem kw_961 : Cond.fieldLink RX12 263 RX12 "visits" "I" ∈ ms_B := ms_memB 961 (by decide +kernel) (by decide +kernel)
set_option maxRecDepth 100000 in
theorem kw_962 : Cond.fieldLink RX12 266 RX12 "foundMany" "I" ∈ ms_B := ms_memB 962 (by decide +kernel) (by decide +kernel)
set_option maxRecDepth 100000 in
theorem kw_963 : Cond.fieldLink RX12 227 RX12 "found" "[I" ∈ ms_B := ms_memB 963 (by decide +kernel) (by decide +kernel)
set_option maxRecDepth 100000 in
theorem kw_964 : Cond.fieldLink RX12 337 RX12 "budget" "I" ∈ ms_B := ms_memB 964 (by decide +kernel) (by decide +kernel)
set_option maxRecDepth 100000 in
theorem kw_965 : Cond.fieldLink RX12 340 RX12 "sought" "I" ∈ ms_B := ms_memB 965 (by decide +kernel) (by decide +kernel)
set_option maxRecDepth 100000 in
theorem kw_966 : Cond.fieldLink RX12 343 RX12 "long1" "I" ∈ ms_B := ms_memB 966 (by decide +kernel) (by decide +kernel)
set_option maxRecDepth 100000 in
theorem kw_1062 : Cond.methodLink RX12 93 yX12_within ∈ ms_B := ms_memB 1062 (by decide +kernel) (by decide +kernel)
set_option maxRecDepth 100000 in
theorem kw_1063 : Cond.static yX12_within ∈ ms_B := ms_memB 1063 (by decide +kernel) (by decide +kernel)
set_option maxRecDepth 100000 in
theorem kw_1064 : Cond.code yX12_within cX12_within 6 (some .boolean) ∈ ms_B := ms_memB 1064 (by decide +kernel) (by decide +kernel)
set_option maxRecDepth 100000 in
theorem kw_1065 : Cond.methodLink RX12 230 yX12_clears ∈ ms_B := ms_memB 1065 (by decide +kernel) (by decide +kernel)
set_option maxRecDepth 100000 in
theorem kw_1066 : Cond.static yX12_clears ∈ ms_B := ms_memB 1066 (by decide +kernel) (by decide +kernel)
set_option maxRecDepth 100000 in
theorem kw_1067 : Cond.code yX12_clears cX12_clears 2 (none) ∈ ms_B := ms_memB 1067 (by decide +kernel) (by decide +kernel)
set_option maxRecDepth 100000 in
theorem kw_1068 : Cond.methodLink RX12 122 yX12_go ∈ ms_B := ms_memB 1068 (by decide +kernel) (by decide +kernel)
set_option maxRecDepth 100000 in
theorem kw_1070 : Cond.instanceMethod yX12_go ∈ ms_B := ms_memB 1070 (by decide +kernel) (by decide +kernel)
set_option maxRecDepth 100000 in
theorem kw_1071 : Cond.code yX12_go cX12_go 2 (none) ∈ ms_B := ms_memB 1071 (by decide +kernel) (by decide +kernel)
set_option maxRecDepth 100000 in
theorem kw_1072 : Cond.methodLink RX12 70 yX12_byteAt ∈ ms_B := ms_memB 1072 (by decide +kernel) (by decide +kernel)
set_option maxRecDepth 100000 in
theorem kw_1074 : Cond.instanceMethod yX12_byteAt ∈ ms_B := ms_memB 1074 (by decide +kernel) (by decide +kernel)
set_option maxRecDepth 100000 in
theorem kw_1075 : Cond.code yX12_byteAt cX12_byteAt 2 (some .int) ∈ ms_B := ms_memB 1075 (by decide +kernel) (by decide +kernel)
set_option maxRecDepth 100000 in
theorem kw_1076 : Cond.constantLong RX12 89 (97) ∈ ms_B := ms_memB 1076 (by decide +kernel) (by decide +kernel)
set_option maxRecDepth 100000 in
theorem kw_1077 : Cond.constantLong RX12 91 (122) ∈ ms_B := ms_memB 1077 (by decide +kernel) (by decide +kernel)
set_option maxRecDepth 100000 in
theorem kw_1078 : Cond.constantLong RX12 97 (48) ∈ ms_B := ms_memB 1078 (by decide +kernel) (by decide +kernel)
set_option maxRecDepth 100000 in
theorem kw_1079 : Cond.constantLong RX12 99 (57) ∈ ms_B := ms_memB 1079 (by decide +kernel) (by decide +kernel)
set_option maxRecDepth 100000 in
theorem kw_1080 : Cond.methodLink RX12 233 yX12_baseLine ∈ ms_B := ms_memB 1080 (by decide +kernel) (by decide +kernel)
set_option maxRecDepth 100000 in
theorem kw_1082 : Cond.instanceMethod yX12_baseLine ∈ ms_B := ms_memB 1082 (by decide +kernel) (by decide +kernel)
set_option maxRecDepth 100000 in
theorem kw_1083 : Cond.code yX12_baseLine cX12_baseLine 1 (some .boolean) ∈ ms_B := ms_memB 1083 (by decide +kernel) (by decide +kernel)
set_option maxRecDepth 100000 in
theorem kw_1084 : Cond.constant RX12 104 (67173) ∈ ms_B := ms_memB 1084 (by decide +kernel) (by decide +kernel)
set_option maxRecDepth 100000 in
theorem kw_1085 : Cond.methodLink RX12 105 yX12_is ∈ ms_B := ms_memB 1085 (by decide +kernel) (by decide +kernel)
set_option maxRecDepth 100000 in
theorem kw_1087 : Cond.instanceMethod yX12_is ∈ ms_B := ms_memB 1087 (by decide +kernel) (by decide +kernel)
set_option maxRecDepth 100000 in
theorem kw_1088 : Cond.code yX12_is cX12_is 2 (some .boolean) ∈ ms_B := ms_memB 1088 (by decide +kernel) (by decide +kernel)
set_option maxRecDepth 100000 in
theorem kw_1089 : Cond.methodLink RX12 119 yX12_bad ∈ ms_B := ms_memB 1089 (by decide +kernel) (by decide +kernel)
set_option maxRecDepth 100000 in
theorem kw_1091 : Cond.instanceMethod yX12_bad ∈ ms_B := ms_memB 1091 (by decide +kernel) (by decide +kernel)
set_option maxRecDepth 100000 in
theorem kw_1092 : Cond.code yX12_bad cX12_bad 2 (some .boolean) ∈ ms_B := ms_memB 1092 (by decide +kernel) (by decide +kernel)
set_option maxRecDepth 100000 in
theorem kw_1093 : Cond.methodLink RX12 125 yX12_isName ∈ ms_B := ms_memB 1093 (by decide +kernel) (by decide +kernel)
set_option maxRecDepth 100000 in
theorem kw_1095 : Cond.instanceMethod yX12_isName ∈ ms_B := ms_memB 1095 (by decide +kernel) (by decide +kernel)
set_option maxRecDepth 100000 in
theorem kw_1096 : Cond.code yX12_isName cX12_isName 1 (some .boolean) ∈ ms_B := ms_memB 1096 (by decide +kernel) (by decide +kernel)
set_option maxRecDepth 100000 in
theorem kw_1097 : Cond.constant RX12 109 (755156) ∈ ms_B := ms_memB 1097 (by decide +kernel) (by decide +kernel)
set_option maxRecDepth 100000 in
theorem kw_1098 : Cond.methodLink RX12 129 yX12_find ∈ ms_B := ms_memB 1098 (by decide +kernel) (by decide +kernel)
set_option maxRecDepth 100000 in
theorem kw_1100 : Cond.instanceMethod yX12_find ∈ ms_B := ms_memB 1100 (by decide +kernel) (by decide +kernel)
set_option maxRecDepth 100000 in
theorem kw_1101 : Cond.code yX12_find cX12_find 3 (some .int) ∈ ms_B := ms_memB 1101 (by decide +kernel) (by decide +kernel)
set_option maxRecDepth 100000 in
theorem kw_1102 : Cond.methodLink RX12 132 yX12_gives ∈ ms_B := ms_memB 1102 (by decide +kernel) (by decide +kernel)
set_option maxRecDepth 100000 in
theorem kw_1104 : Cond.instanceMethod yX12_gives ∈ ms_B := ms_memB 1104 (by decide +kernel) (by decide +kernel)
set_option maxRecDepth 100000 in
theorem kw_1105 : Cond.code yX12_gives cX12_gives 3 (none) ∈ ms_B := ms_memB 1105 (by decide +kernel) (by decide +kernel)
set_option maxRecDepth 100000 in
theorem kw_1106 : Cond.methodLink RX12 136 yX12_isSign ∈ ms_B := ms_memB 1106 (by decide +kernel) (by decide +kernel)
set_option maxRecDepth 100000 in
theorem kw_1108 : Cond.instanceMethod yX12_isSign ∈ ms_B := ms_memB 1108 (by decide +kernel) (by decide +kernel)
set_option maxRecDepth 100000 in
theorem kw_1109 : Cond.code yX12_isSign cX12_isSign 2 (some .boolean) ∈ ms_B := ms_memB 1109 (by decide +kernel) (by decide +kernel)
set_option maxRecDepth 100000 in
theorem kw_1110 : Cond.methodLink RX12 236 yX12_statement ∈ ms_B := ms_memB 1110 (by decide +kernel) (by decide +kernel)
set_option maxRecDepth 100000 in
theorem kw_1112 : Cond.instanceMethod yX12_statement ∈ ms_B := ms_memB 1112 (by decide +kernel) (by decide +kernel)
set_option maxRecDepth 100000 in
theorem kw_1113 : Cond.code yX12_statement cX12_statement 4 (some .boolean) ∈ ms_B := ms_memB 1113 (by decide +kernel) (by decide +kernel)
set_option maxRecDepth 100000 in
theorem kw_1114 : Cond.methodLink RX12 162 yX12_known ∈ ms_B := ms_memB 1114 (by decide +kernel) (by decide +kernel)
set_option maxRecDepth 100000 in
theorem kw_1116 : Cond.instanceMethod yX12_known ∈ ms_B := ms_memB 1116 (by decide +kernel) (by decide +kernel)
set_option maxRecDepth 100000 in
theorem kw_1117 : Cond.code yX12_known cX12_known 1 (some .boolean) ∈ ms_B := ms_memB 1117 (by decide +kernel) (by decide +kernel)
set_option maxRecDepth 100000 in
theorem kw_1118 : Cond.methodLink RX12 158 yX12_adds ∈ ms_B := ms_memB 1118 (by decide +kernel) (by decide +kernel)
set_option maxRecDepth 100000 in
theorem kw_1120 : Cond.instanceMethod yX12_adds ∈ ms_B := ms_memB 1120 (by decide +kernel) (by decide +kernel)
set_option maxRecDepth 100000 in
theorem kw_1121 : Cond.code yX12_adds cX12_adds 3 (some .int) ∈ ms_B := ms_memB 1121 (by decide +kernel) (by decide +kernel)
set_option maxRecDepth 100000 in
theorem kw_1122 : Cond.methodLink RX12 28 yX12_nodes ∈ ms_B := ms_memB 1122 (by decide +kernel) (by decide +kernel)
set_option maxRecDepth 100000 in
theorem kw_1123 : Cond.static yX12_nodes ∈ ms_B := ms_memB 1123 (by decide +kernel) (by decide +kernel)
set_option maxRecDepth 100000 in
theorem kw_1124 : Cond.code yX12_nodes cX12_nodes 1 (some .int) ∈ ms_B := ms_memB 1124 (by decide +kernel) (by decide +kernel)
set_option maxRecDepth 100000 in
theorem kw_1125 : Cond.methodLink RX12 165 yX12_power ∈ ms_B := ms_memB 1125 (by decide +kernel) (by decide +kernel)
set_option maxRecDepth 100000 in
theorem kw_1127 : Cond.instanceMethod yX12_power ∈ ms_B := ms_memB 1127 (by decide +kernel) (by decide +kernel)
set_option maxRecDepth 100000 in
theorem kw_1128 : Cond.code yX12_power cX12_power 4 (some .boolean) ∈ ms_B := ms_memB 1128 (by decide +kernel) (by decide +kernel)
set_option maxRecDepth 100000 in
theorem kw_1129 : Cond.constantLong RX12 151 (2) ∈ ms_B := ms_memB 1129 (by decide +kernel) (by decide +kernel)
set_option maxRecDepth 100000 in
theorem kw_1130 : Cond.constantLong RX12 153 (9999) ∈ ms_B := ms_memB 1130 (by decide +kernel) (by decide +kernel)
set_option maxRecDepth 100000 in
theorem kw_1131 : Cond.methodLink RX12 155 yX12_highest ∈ ms_B := ms_memB 1131 (by decide +kernel) (by decide +kernel)
set_option maxRecDepth 100000 in
theorem kw_1133 : Cond.instanceMethod yX12_highest ∈ ms_B := ms_memB 1133 (by decide +kernel) (by decide +kernel)
set_option maxRecDepth 100000 in
theorem kw_1134 : Cond.code yX12_highest cX12_highest 3 (some .int) ∈ ms_B := ms_memB 1134 (by decide +kernel) (by decide +kernel)
set_option maxRecDepth 100000 in
theorem kw_1135 : Cond.methodLink RX12 168 yX12_puts ∈ ms_B := ms_memB 1135 (by decide +kernel) (by decide +kernel)
set_option maxRecDepth 100000 in
theorem kw_1136 : Cond.static yX12_puts ∈ ms_B := ms_memB 1136 (by decide +kernel) (by decide +kernel)
set_option maxRecDepth 100000 in
theorem kw_1137 : Cond.code yX12_puts cX12_puts 3 (some .int) ∈ ms_B := ms_memB 1137 (by decide +kernel) (by decide +kernel)
set_option maxRecDepth 100000 in
theorem kw_1138 : Cond.methodLink RX12 172 yX12_areHuge ∈ ms_B := ms_memB 1138 (by decide +kernel) (by decide +kernel)
set_option maxRecDepth 100000 in
theorem kw_1140 : Cond.instanceMethod yX12_areHuge ∈ ms_B := ms_memB 1140 (by decide +kernel) (by decide +kernel)
set_option maxRecDepth 100000 in
theorem kw_1141 : Cond.code yX12_areHuge cX12_areHuge 4 (some .boolean) ∈ ms_B := ms_memB 1141 (by decide +kernel) (by decide +kernel)
set_option maxRecDepth 100000 in
theorem kw_1142 : Cond.methodLink RX12 43 yX12_powersOf ∈ ms_B := ms_memB 1142 (by decide +kernel) (by decide +kernel)
set_option maxRecDepth 100000 in
theorem kw_1144 : Cond.instanceMethod yX12_powersOf ∈ ms_B := ms_memB 1144 (by decide +kernel) (by decide +kernel)
set_option maxRecDepth 100000 in
theorem kw_1145 : Cond.code yX12_powersOf cX12_powersOf 4 (none) ∈ ms_B := ms_memB 1145 (by decide +kernel) (by decide +kernel)
set_option maxRecDepth 100000 in
theorem kw_1146 : Cond.methodLink RX12 36 yX12_leftOf ∈ ms_B := ms_memB 1146 (by decide +kernel) (by decide +kernel)
set_option maxRecDepth 100000 in
theorem kw_1147 : Cond.static yX12_leftOf ∈ ms_B := ms_memB 1147 (by decide +kernel) (by decide +kernel)
set_option maxRecDepth 100000 in
theorem kw_1148 : Cond.code yX12_leftOf cX12_leftOf 2 (some .int) ∈ ms_B := ms_memB 1148 (by decide +kernel) (by decide +kernel)
set_option maxRecDepth 100000 in
theorem kw_1149 : Cond.methodLink RX12 40 yX12_rightOf ∈ ms_B := ms_memB 1149 (by decide +kernel) (by decide +kernel)
set_option maxRecDepth 100000 in
theorem kw_1150 : Cond.static yX12_rightOf ∈ ms_B := ms_memB 1150 (by decide +kernel) (by decide +kernel)
set_option maxRecDepth 100000 in
theorem kw_1151 : Cond.code yX12_rightOf cX12_rightOf 2 (some .int) ∈ ms_B := ms_memB 1151 (by decide +kernel) (by decide +kernel)
set_option maxRecDepth 100000 in
theorem kw_1152 : Cond.constantLong RX12 47 (1000000000000000) ∈ ms_B := ms_memB 1152 (by decide +kernel) (by decide +kernel)
set_option maxRecDepth 100000 in
theorem kw_1153 : Cond.methodLink RX12 239 yX12_wantLine ∈ ms_B := ms_memB 1153 (by decide +kernel) (by decide +kernel)
set_option maxRecDepth 100000 in
theorem kw_1155 : Cond.instanceMethod yX12_wantLine ∈ ms_B := ms_memB 1155 (by decide +kernel) (by decide +kernel)
set_option maxRecDepth 100000 in
theorem kw_1156 : Cond.code yX12_wantLine cX12_wantLine 2 (some .boolean) ∈ ms_B := ms_memB 1156 (by decide +kernel) (by decide +kernel)
set_option maxRecDepth 100000 in
theorem kw_1157 : Cond.methodLink RX12 242 yX12_becomes ∈ ms_B := ms_memB 1157 (by decide +kernel) (by decide +kernel)
set_option maxRecDepth 100000 in
theorem kw_1159 : Cond.instanceMethod yX12_becomes ∈ ms_B := ms_memB 1159 (by decide +kernel) (by decide +kernel)
set_option maxRecDepth 100000 in
theorem kw_1160 : Cond.code yX12_becomes cX12_becomes 1 (some .int) ∈ ms_B := ms_memB 1160 (by decide +kernel) (by decide +kernel)
set_option maxRecDepth 100000 in
theorem kw_1161 : Cond.methodLink RX12 21 yX12_keeps ∈ ms_B := ms_memB 1161 (by decide +kernel) (by decide +kernel)
set_option maxRecDepth 100000 in
theorem kw_1163 : Cond.instanceMethod yX12_keeps ∈ ms_B := ms_memB 1163 (by decide +kernel) (by decide +kernel)
set_option maxRecDepth 100000 in
theorem kw_1164 : Cond.code yX12_keeps cX12_keeps 2 (none) ∈ ms_B := ms_memB 1164 (by decide +kernel) (by decide +kernel)
set_option maxRecDepth 100000 in
theorem kw_1165 : Cond.methodLink RX12 17 yX12_copies ∈ ms_B := ms_memB 1165 (by decide +kernel) (by decide +kernel)
set_option maxRecDepth 100000 in
theorem kw_1166 : Cond.static yX12_copies ∈ ms_B := ms_memB 1166 (by decide +kernel) (by decide +kernel)
set_option maxRecDepth 100000 in
theorem kw_1167 : Cond.code yX12_copies cX12_copies 5 (none) ∈ ms_B := ms_memB 1167 (by decide +kernel) (by decide +kernel)
set_option maxRecDepth 100000 in
theorem kw_1172 : Cond.methodLink RX12 254 yX12_sorts ∈ ms_B := ms_memB 1172 (by decide +kernel) (by decide +kernel)
set_option maxRecDepth 100000 in
theorem kw_1174 : Cond.instanceMethod yX12_sorts ∈ ms_B := ms_memB 1174 (by decide +kernel) (by decide +kernel)
set_option maxRecDepth 100000 in
theorem kw_1175 : Cond.code yX12_sorts cX12_sorts 4 (some .int) ∈ ms_B := ms_memB 1175 (by decide +kernel) (by decide +kernel)
set_option maxRecDepth 100000 in
theorem kw_1176 : Cond.methodLink RX12 251 yX12_sortOf ∈ ms_B := ms_memB 1176 (by decide +kernel) (by decide +kernel)
set_option maxRecDepth 100000 in
theorem kw_1178 : Cond.instanceMethod yX12_sortOf ∈ ms_B := ms_memB 1178 (by decide +kernel) (by decide +kernel)
set_option maxRecDepth 100000 in
theorem kw_1179 : Cond.code yX12_sortOf cX12_sortOf 4 (some .int) ∈ ms_B := ms_memB 1179 (by decide +kernel) (by decide +kernel)
set_option maxRecDepth 100000 in
theorem kw_1180 : Cond.methodLink RX12 257 yX12_needs ∈ ms_B := ms_memB 1180 (by decide +kernel) (by decide +kernel)
set_option maxRecDepth 100000 in
theorem kw_1182 : Cond.instanceMethod yX12_needs ∈ ms_B := ms_memB 1182 (by decide +kernel) (by decide +kernel)
set_option maxRecDepth 100000 in
theorem kw_1183 : Cond.code yX12_needs cX12_needs 2 (none) ∈ ms_B := ms_memB 1183 (by decide +kernel) (by decide +kernel)
set_option maxRecDepth 100000 in
theorem kw_1184 : Cond.methodLink RX12 260 yX12_depthsAll ∈ ms_B := ms_memB 1184 (by decide +kernel) (by decide +kernel)
set_option maxRecDepth 100000 in
theorem kw_1186 : Cond.instanceMethod yX12_depthsAll ∈ ms_B := ms_memB 1186 (by decide +kernel) (by decide +kernel)
set_option maxRecDepth 100000 in
theorem kw_1187 : Cond.code yX12_depthsAll cX12_depthsAll 3 (some .int) ∈ ms_B := ms_memB 1187 (by decide +kernel) (by decide +kernel)
set_option maxRecDepth 100000 in
theorem kw_1188 : Cond.methodLink RX12 246 Lib.Math.max.name ∈ ms_B := ms_memB 1188 (by decide +kernel) (by decide +kernel)
set_option maxRecDepth 100000 in
theorem kw_1193 : Cond.methodLink RX12 269 yX12_isNode ∈ ms_B := ms_memB 1193 (by decide +kernel) (by decide +kernel)
set_option maxRecDepth 100000 in
theorem kw_1195 : Cond.instanceMethod yX12_isNode ∈ ms_B := ms_memB 1195 (by decide +kernel) (by decide +kernel)
set_option maxRecDepth 100000 in
theorem kw_1196 : Cond.code yX12_isNode cX12_isNode 2 (some .boolean) ∈ ms_B := ms_memB 1196 (by decide +kernel) (by decide +kernel)
set_option maxRecDepth 100000 in
theorem kw_1197 : Cond.constantLong RX12 272 (6) ∈ ms_B := ms_memB 1197 (by decide +kernel) (by decide +kernel)
set_option maxRecDepth 100000 in
theorem kw_1198 : Cond.methodLink RX12 274 yX12_firstAlike ∈ ms_B := ms_memB 1198 (by decide +kernel) (by decide +kernel)
set_option maxRecDepth 100000 in
theorem kw_1200 : Cond.instanceMethod yX12_firstAlike ∈ ms_B := ms_memB 1200 (by decide +kernel) (by decide +kernel)
set_option maxRecDepth 100000 in
theorem kw_1201 : Cond.code yX12_firstAlike cX12_firstAlike 4 (some .int) ∈ ms_B := ms_memB 1201 (by decide +kernel) (by decide +kernel)
set_option maxRecDepth 100000 in
theorem kw_1202 : Cond.methodLink RX12 49 yX12_areAlike ∈ ms_B := ms_memB 1202 (by decide +kernel) (by decide +kernel)
set_option maxRecDepth 100000 in
theorem kw_1204 : Cond.instanceMethod yX12_areAlike ∈ ms_B := ms_memB 1204 (by decide +kernel) (by decide +kernel)
set_option maxRecDepth 100000 in
theorem kw_1205 : Cond.code yX12_areAlike cX12_areAlike 5 (some .boolean) ∈ ms_B := ms_memB 1205 (by decide +kernel) (by decide +kernel)
set_option maxRecDepth 100000 in
theorem kw_1210 : Cond.constantLong RX12 277 (-1) ∈ ms_B := ms_memB 1210 (by decide +kernel) (by decide +kernel)
set_option maxRecDepth 100000 in
theorem kw_1219 : Cond.constantLong RX12 279 (1000000000) ∈ ms_B := ms_memB 1219 (by decide +kernel) (by decide +kernel)
set_option maxRecDepth 100000 in
theorem kw_1220 : Cond.methodLink RX12 281 yJ9_floorMod_7cf53 ∈ ms_B := ms_memB 1220 (by decide +kernel) (by decide +kernel)
set_option maxRecDepth 100000 in
theorem kw_1233 : Cond.methodLink RX12 284 yX12_squeezes ∈ ms_B := ms_memB 1233 (by decide +kernel) (by decide +kernel)
set_option maxRecDepth 100000 in
theorem kw_1235 : Cond.instanceMethod yX12_squeezes ∈ ms_B := ms_memB 1235 (by decide +kernel) (by decide +kernel)
set_option maxRecDepth 100000 in
theorem kw_1236 : Cond.code yX12_squeezes cX12_squeezes 6 (some .int) ∈ ms_B := ms_memB 1236 (by decide +kernel) (by decide +kernel)
set_option maxRecDepth 100000 in
theorem kw_1245 : Cond.methodLink RX12 292 yX12_turns ∈ ms_B := ms_memB 1245 (by decide +kernel) (by decide +kernel)
set_option maxRecDepth 100000 in
theorem kw_1247 : Cond.instanceMethod yX12_turns ∈ ms_B := ms_memB 1247 (by decide +kernel) (by decide +kernel)
set_option maxRecDepth 100000 in
theorem kw_1248 : Cond.code yX12_turns cX12_turns 5 (some .boolean) ∈ ms_B := ms_memB 1248 (by decide +kernel) (by decide +kernel)
set_option maxRecDepth 100000 in
theorem kw_1249 : Cond.methodLink RX12 288 yX12_joins ∈ ms_B := ms_memB 1249 (by decide +kernel) (by decide +kernel)
set_option maxRecDepth 100000 in
theorem kw_1251 : Cond.instanceMethod yX12_joins ∈ ms_B := ms_memB 1251 (by decide +kernel) (by decide +kernel)
set_option maxRecDepth 100000 in
theorem kw_1252 : Cond.code yX12_joins cX12_joins 3 (some .boolean) ∈ ms_B := ms_memB 1252 (by decide +kernel) (by decide +kernel)
set_option maxRecDepth 100000 in
theorem kw_1261 : Cond.methodLink RX12 304 yX12_sequenced ∈ ms_B := ms_memB 1261 (by decide +kernel) (by decide +kernel)
set_option maxRecDepth 100000 in
theorem kw_1263 : Cond.instanceMethod yX12_sequenced ∈ ms_B := ms_memB 1263 (by decide +kernel) (by decide +kernel)
set_option maxRecDepth 100000 in
theorem kw_1264 : Cond.code yX12_sequenced cX12_sequenced 9 (some .boolean) ∈ ms_B := ms_memB 1264 (by decide +kernel) (by decide +kernel)
set_option maxRecDepth 100000 in
theorem kw_1265 : Cond.constantLong RX12 298 (4) ∈ ms_B := ms_memB 1265 (by decide +kernel) (by decide +kernel)
set_option maxRecDepth 100000 in
theorem kw_1266 : Cond.methodLink RX12 300 yX12_ofBoth ∈ ms_B := ms_memB 1266 (by decide +kernel) (by decide +kernel)
set_option maxRecDepth 100000 in
theorem kw_1268 : Cond.instanceMethod yX12_ofBoth ∈ ms_B := ms_memB 1268 (by decide +kernel) (by decide +kernel)
set_option maxRecDepth 100000 in
theorem kw_1269 : Cond.code yX12_ofBoth cX12_ofBoth 4 (none) ∈ ms_B := ms_memB 1269 (by decide +kernel) (by decide +kernel)
set_option maxRecDepth 100000 in
theorem kw_1270 : Cond.methodLink RX12 295 Lib.Math.min.name ∈ ms_B := ms_memB 1270 (by decide +kernel) (by decide +kernel)
set_option maxRecDepth 100000 in
theorem kw_1271 : Cond.static Lib.Math.min.name ∈ ms_B := ms_memB 1271 (by decide +kernel) (by decide +kernel)
set_option maxRecDepth 100000 in
theorem kw_1272 : Cond.code Lib.Math.min.name Lib.Math.min.code 2 (some .int) ∈ ms_B := ms_memB 1272 (by decide +kernel) (by decide +kernel)
set_option maxRecDepth 100000 in
theorem kw_1281 : Cond.methodLink RX12 308 yX12_isShelf ∈ ms_B := ms_memB 1281 (by decide +kernel) (by decide +kernel)
set_option maxRecDepth 100000 in
theorem kw_1282 : Cond.static yX12_isShelf ∈ ms_B := ms_memB 1282 (by decide +kernel) (by decide +kernel)
set_option maxRecDepth 100000 in
theorem kw_1283 : Cond.code yX12_isShelf cX12_isShelf 1 (some .boolean) ∈ ms_B := ms_memB 1283 (by decide +kernel) (by decide +kernel)
set_option maxRecDepth 100000 in
theorem kw_1300 : Cond.methodLink RX12 331 yX12_lays ∈ ms_B := ms_memB 1300 (by decide +kernel) (by decide +kernel)
set_option maxRecDepth 100000 in
theorem kw_1302 : Cond.instanceMethod yX12_lays ∈ ms_B := ms_memB 1302 (by decide +kernel) (by decide +kernel)
set_option maxRecDepth 100000 in
theorem kw_1303 : Cond.code yX12_lays cX12_lays 4 (some .boolean) ∈ ms_B := ms_memB 1303 (by decide +kernel) (by decide +kernel)
set_option maxRecDepth 100000 in
theorem kw_1304 : Cond.constantLong RX12 320 (3) ∈ ms_B := ms_memB 1304 (by decide +kernel) (by decide +kernel)
set_option maxRecDepth 100000 in
theorem kw_1305 : Cond.methodLink RX12 317 yX12_marksBinary ∈ ms_B := ms_memB 1305 (by decide +kernel) (by decide +kernel)
set_option maxRecDepth 100000 in
theorem kw_1307 : Cond.instanceMethod yX12_marksBinary ∈ ms_B := ms_memB 1307 (by decide +kernel) (by decide +kernel)
set_option maxRecDepth 100000 in
theorem kw_1308 : Cond.code yX12_marksBinary cX12_marksBinary 4 (none) ∈ ms_B := ms_memB 1308 (by decide +kernel) (by decide +kernel)
set_option maxRecDepth 100000 in
theorem kw_1309 : Cond.methodLink RX12 322 yX12_marksRight ∈ ms_B := ms_memB 1309 (by decide +kernel) (by decide +kernel)
set_option maxRecDepth 100000 in
theorem kw_1311 : Cond.instanceMethod yX12_marksRight ∈ ms_B := ms_memB 1311 (by decide +kernel) (by decide +kernel)
set_option maxRecDepth 100000 in
theorem kw_1312 : Cond.code yX12_marksRight cX12_marksRight 4 (none) ∈ ms_B := ms_memB 1312 (by decide +kernel) (by decide +kernel)
set_option maxRecDepth 100000 in
theorem kw_1313 : Cond.methodLink RX12 314 yX12_marksFactor ∈ ms_B := ms_memB 1313 (by decide +kernel) (by decide +kernel)
set_option maxRecDepth 100000 in
theorem kw_1315 : Cond.instanceMethod yX12_marksFactor ∈ ms_B := ms_memB 1315 (by decide +kernel) (by decide +kernel)
set_option maxRecDepth 100000 in
theorem kw_1316 : Cond.code yX12_marksFactor cX12_marksFactor 4 (none) ∈ ms_B := ms_memB 1316 (by decide +kernel) (by decide +kernel)
set_option maxRecDepth 100000 in
theorem kw_1317 : Cond.methodLink RX12 311 yX12_leastPrime ∈ ms_B := ms_memB 1317 (by decide +kernel) (by decide +kernel)
set_option maxRecDepth 100000 in
theorem kw_1318 : Cond.static yX12_leastPrime ∈ ms_B := ms_memB 1318 (by decide +kernel) (by decide +kernel)
set_option maxRecDepth 100000 in
theorem kw_1319 : Cond.code yX12_leastPrime cX12_leastPrime 2 (some .int) ∈ ms_B := ms_memB 1319 (by decide +kernel) (by decide +kernel)
set_option maxRecDepth 100000 in
theorem kw_1320 : Cond.methodLink RX12 325 yX12_marksThrees ∈ ms_B := ms_memB 1320 (by decide +kernel) (by decide +kernel)
set_option maxRecDepth 100000 in
theorem kw_1322 : Cond.instanceMethod yX12_marksThrees ∈ ms_B := ms_memB 1322 (by decide +kernel) (by decide +kernel)
set_option maxRecDepth 100000 in
theorem kw_1323 : Cond.code yX12_marksThrees cX12_marksThrees 5 (none) ∈ ms_B := ms_memB 1323 (by decide +kernel) (by decide +kernel)
set_option maxRecDepth 100000 in
theorem kw_1340 : Cond.methodLink RX12 334 yX12_lowerOf ∈ ms_B := ms_memB 1340 (by decide +kernel) (by decide +kernel)
set_option maxRecDepth 100000 in
theorem kw_1342 : Cond.instanceMethod yX12_lowerOf ∈ ms_B := ms_memB 1342 (by decide +kernel) (by decide +kernel)
set_option maxRecDepth 100000 in
theorem kw_1343 : Cond.code yX12_lowerOf cX12_lowerOf 6 (some .int) ∈ ms_B := ms_memB 1343 (by decide +kernel) (by decide +kernel)
set_option maxRecDepth 100000 in
theorem kw_1348 : Cond.constantLong RX12 349 (2047) ∈ ms_B := ms_memB 1348 (by decide +kernel) (by decide +kernel)
set_option maxRecDepth 100000 in
theorem kw_1349 : Cond.constantLong RX12 351 (100000) ∈ ms_B := ms_memB 1349 (by decide +kernel) (by decide +kernel)
set_option maxRecDepth 100000 in
theorem kw_1350 : Cond.methodLink RX12 346 yX12_goes ∈ ms_B := ms_memB 1350 (by decide +kernel) (by decide +kernel)
set_option maxRecDepth 100000 in
theorem kw_1352 : Cond.instanceMethod yX12_goes ∈ ms_B := ms_memB 1352 (by decide +kernel) (by decide +kernel)
set_option maxRecDepth 100000 in
theorem kw_1353 : Cond.code yX12_goes cX12_goes 5 (some .int) ∈ ms_B := ms_memB 1353 (by decide +kernel) (by decide +kernel)
